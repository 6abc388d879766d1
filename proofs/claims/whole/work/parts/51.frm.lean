set_option maxRecDepth 100000 in
set_option maxHeartbeats 4000000 in
theorem g_JMath_min_10 {Rg : Nat → Prop} {O : zO} {q : Int32 × zM} : ∀ (n : Nat) (s0 : Int32) (M : zM), zCl Rg M → f_JMath_min_10 O n s0 M = some q → zFr Rg M q.2 := by
  intro n s0 M hcl h
  rw [f_JMath_min_10] at h
  have g := zFr.rf hcl
  obtain rfl := z_res h
  exact g
set_option maxRecDepth 100000 in
set_option maxHeartbeats 4000000 in
theorem g_JMath_min_0 {Rg : Nat → Prop} {O : zO} {q : Int32 × zM} : ∀ (n : Nat) (l0 : Int32) (l1 : Int32) (M : zM), zCl Rg M → f_JMath_min_0 O n l0 l1 M = some q → zFr Rg M q.2 := by
  intro n l0 l1 M hcl h
  rw [f_JMath_min_0] at h
  have g := zFr.rf hcl
  by_cases c1 : l1 < l0
  · have h := zift h c1
    exact g.tr (g_JMath_min_10 n l1 M g.cl h)
  · have h := ziff h c1
    exact g.tr (g_JMath_min_10 n l0 M g.cl h)
theorem G_JMath_min {Rg : Nat → Prop} {O : zO} {n : Nat} {l0 : Int32} {l1 : Int32} {M : zM} {q : Int32 × zM} (hcl : zCl Rg M) (h : F_JMath_min O n l0 l1 M = some q) : zFr Rg M q.2 := g_JMath_min_0 n l0 l1 M hcl h

set_option maxRecDepth 100000 in
set_option maxHeartbeats 4000000 in
theorem g_Share_nextPlace_24 {Rg : Nat → Prop} {O : zO} {q : Int32 × zM} : ∀ (n : Nat) (l1 : Int32) (l2 : Int32) (l3 : Int32) (l4 : Int32) (l5 : Int32) (l6 : Int32) (M : zM), zCl Rg M → f_Share_nextPlace_24 O n l1 l2 l3 l4 l5 l6 M = some q → zFr Rg M q.2 := by
  intro n
  induction n with
  | zero => intro l1 l2 l3 l4 l5 l6 M hcl h; rw [f_Share_nextPlace_24] at h; cases h
  | succ n ih =>
    intro l1 l2 l3 l4 l5 l6 M hcl h
    rw [f_Share_nextPlace_24] at h
    have g := zFr.rf hcl
    by_cases c6 : l3 ≤ l6
    · have h := zift h c6
      obtain rfl := z_res h
      exact g
    · have h := ziff h c6
      obtain ⟨v1, e2, h⟩ := zlet_ex h
      by_cases c5 : l2 < v1
      · have h := zift h c5
        obtain ⟨v3, e4, h⟩ := zlet_ex h
        exact g.tr (ih l1 l2 l3 l4 v1 v3 M g.cl h)
      · have h := ziff h c5
        obtain rfl := z_res h
        exact g
set_option maxRecDepth 100000 in
set_option maxHeartbeats 4000000 in
theorem g_Share_nextPlace_0 {Rg : Nat → Prop} {O : zO} {q : Int32 × zM} : ∀ (n : Nat) (l0 : Nat) (l1 : Int32) (l2 : Int32) (M : zM), zCl Rg M → Rg l0 → f_Share_nextPlace_0 O n l0 l1 l2 M = some q → zFr Rg M q.2 := by
  intro n l0 l1 l2 M hcl hR_l0 h
  rw [f_Share_nextPlace_0] at h
  have g := zFr.rf hcl
  obtain ⟨h1, h⟩ := zif h
  obtain ⟨v2, e3, h⟩ := zlet_ex h
  obtain ⟨v4, e5, h⟩ := zlet_ex h
  exact g.tr (g_Share_nextPlace_24 n l1 l2 v2 v4 l1 (0 : Int32) M g.cl h)
theorem G_Share_nextPlace {Rg : Nat → Prop} {O : zO} {n : Nat} {l0 : Nat} {l1 : Int32} {l2 : Int32} {M : zM} {q : Int32 × zM} (hcl : zCl Rg M) (hR_l0 : Rg l0) (h : F_Share_nextPlace O n l0 l1 l2 M = some q) : zFr Rg M q.2 := g_Share_nextPlace_0 n l0 l1 l2 M hcl hR_l0 h

set_option maxRecDepth 100000 in
set_option maxHeartbeats 4000000 in
theorem g_JInt_numberOfLeadingZeros_73 {Rg : Nat → Prop} {O : zO} {q : Int32 × zM} : ∀ (n : Nat) (l0 : Int32) (l1 : Int32) (M : zM), zCl Rg M → f_JInt_numberOfLeadingZeros_73 O n l0 l1 M = some q → zFr Rg M q.2 := by
  intro n l0 l1 M hcl h
  rw [f_JInt_numberOfLeadingZeros_73] at h
  have g := zFr.rf hcl
  obtain rfl := z_res h
  exact g
set_option maxRecDepth 100000 in
set_option maxHeartbeats 4000000 in
theorem g_JInt_numberOfLeadingZeros_61 {Rg : Nat → Prop} {O : zO} {q : Int32 × zM} : ∀ (n : Nat) (l0 : Int32) (l1 : Int32) (M : zM), zCl Rg M → f_JInt_numberOfLeadingZeros_61 O n l0 l1 M = some q → zFr Rg M q.2 := by
  intro n l0 l1 M hcl h
  rw [f_JInt_numberOfLeadingZeros_61] at h
  have g := zFr.rf hcl
  by_cases c5 : l0 < (4 : Int32)
  · have h := zift h c5
    exact g.tr (g_JInt_numberOfLeadingZeros_73 n l0 l1 M g.cl h)
  · have h := ziff h c5
    obtain ⟨v1, e2, h⟩ := zlet_ex h
    obtain ⟨v3, e4, h⟩ := zlet_ex h
    exact g.tr (g_JInt_numberOfLeadingZeros_73 n v3 v1 M g.cl h)
set_option maxRecDepth 100000 in
set_option maxHeartbeats 4000000 in
theorem g_JInt_numberOfLeadingZeros_48 {Rg : Nat → Prop} {O : zO} {q : Int32 × zM} : ∀ (n : Nat) (l0 : Int32) (l1 : Int32) (M : zM), zCl Rg M → f_JInt_numberOfLeadingZeros_48 O n l0 l1 M = some q → zFr Rg M q.2 := by
  intro n l0 l1 M hcl h
  rw [f_JInt_numberOfLeadingZeros_48] at h
  have g := zFr.rf hcl
  by_cases c5 : l0 < (16 : Int32)
  · have h := zift h c5
    exact g.tr (g_JInt_numberOfLeadingZeros_61 n l0 l1 M g.cl h)
  · have h := ziff h c5
    obtain ⟨v1, e2, h⟩ := zlet_ex h
    obtain ⟨v3, e4, h⟩ := zlet_ex h
    exact g.tr (g_JInt_numberOfLeadingZeros_61 n v3 v1 M g.cl h)
set_option maxRecDepth 100000 in
set_option maxHeartbeats 4000000 in
theorem g_JInt_numberOfLeadingZeros_33 {Rg : Nat → Prop} {O : zO} {q : Int32 × zM} : ∀ (n : Nat) (l0 : Int32) (l1 : Int32) (M : zM), zCl Rg M → f_JInt_numberOfLeadingZeros_33 O n l0 l1 M = some q → zFr Rg M q.2 := by
  intro n l0 l1 M hcl h
  rw [f_JInt_numberOfLeadingZeros_33] at h
  have g := zFr.rf hcl
  by_cases c5 : l0 < (256 : Int32)
  · have h := zift h c5
    exact g.tr (g_JInt_numberOfLeadingZeros_48 n l0 l1 M g.cl h)
  · have h := ziff h c5
    obtain ⟨v1, e2, h⟩ := zlet_ex h
    obtain ⟨v3, e4, h⟩ := zlet_ex h
    exact g.tr (g_JInt_numberOfLeadingZeros_48 n v3 v1 M g.cl h)
set_option maxRecDepth 100000 in
set_option maxHeartbeats 4000000 in
theorem g_JInt_numberOfLeadingZeros_14 {Rg : Nat → Prop} {O : zO} {q : Int32 × zM} : ∀ (n : Nat) (s0 : Int32) (M : zM), zCl Rg M → f_JInt_numberOfLeadingZeros_14 O n s0 M = some q → zFr Rg M q.2 := by
  intro n s0 M hcl h
  rw [f_JInt_numberOfLeadingZeros_14] at h
  have g := zFr.rf hcl
  obtain rfl := z_res h
  exact g
set_option maxRecDepth 100000 in
set_option maxHeartbeats 4000000 in
theorem g_JInt_numberOfLeadingZeros_0 {Rg : Nat → Prop} {O : zO} {q : Int32 × zM} : ∀ (n : Nat) (l0 : Int32) (M : zM), zCl Rg M → f_JInt_numberOfLeadingZeros_0 O n l0 M = some q → zFr Rg M q.2 := by
  intro n l0 M hcl h
  rw [f_JInt_numberOfLeadingZeros_0] at h
  have g := zFr.rf hcl
  by_cases c7 : 0 < l0
  · have h := zift h c7
    by_cases c5 : l0 < (65536 : Int32)
    · have h := zift h c5
      exact g.tr (g_JInt_numberOfLeadingZeros_33 n l0 (31 : Int32) M g.cl h)
    · have h := ziff h c5
      obtain ⟨v1, e2, h⟩ := zlet_ex h
      obtain ⟨v3, e4, h⟩ := zlet_ex h
      exact g.tr (g_JInt_numberOfLeadingZeros_33 n v3 v1 M g.cl h)
  · have h := ziff h c7
    by_cases c6 : l0 = 0
    · have h := zift h c6
      exact g.tr (g_JInt_numberOfLeadingZeros_14 n (32 : Int32) M g.cl h)
    · have h := ziff h c6
      exact g.tr (g_JInt_numberOfLeadingZeros_14 n (0 : Int32) M g.cl h)
theorem G_JInt_numberOfLeadingZeros {Rg : Nat → Prop} {O : zO} {n : Nat} {l0 : Int32} {M : zM} {q : Int32 × zM} (hcl : zCl Rg M) (h : F_JInt_numberOfLeadingZeros O n l0 M = some q) : zFr Rg M q.2 := g_JInt_numberOfLeadingZeros_0 n l0 M hcl h

set_option maxRecDepth 100000 in
set_option maxHeartbeats 4000000 in
theorem g_Share_number_50 {Rg : Nat → Prop} {O : zO} {q : Unit × zM} : ∀ (n : Nat) (l0 : Nat) (l1 : Int32) (l2 : Int32) (M : zM), zCl Rg M → Rg l0 → f_Share_number_50 O n l0 l1 l2 M = some q → zFr Rg M q.2 := by
  intro n
  induction n with
  | zero => intro l0 l1 l2 M hcl hR_l0 h; rw [f_Share_number_50] at h; cases h
  | succ n ih =>
    intro l0 l1 l2 M hcl hR_l0 h
    rw [f_Share_number_50] at h
    have g := zFr.rf hcl
    by_cases c37 : l1 ≤ l2
    · have h := zift h c37
      obtain rfl := z_res h
      exact g
    · have h := ziff h c37
      obtain ⟨h1, h⟩ := zif h
      have r4 : Rg (z_p M l0 4) := g.cl _ _ hR_l0
      obtain ⟨h2, h⟩ := zif h
      obtain ⟨h3, h⟩ := zif h
      obtain ⟨v4, e5, h⟩ := zlet_ex h
      have r5 : Rg (z_p M l0 3) := g.cl _ _ hR_l0
      obtain ⟨h6, h⟩ := zif h
      obtain ⟨h7, h⟩ := zif h
      obtain ⟨v8, e9, h⟩ := zlet_ex h
      have r6 : Rg (z_p M l0 3) := g.cl _ _ hR_l0
      obtain ⟨h10, h⟩ := zif h
      obtain ⟨h11, h⟩ := zif h
      obtain ⟨M12, e13, h⟩ := zlet_ex h
      have g := g.i r6 e13
      have h14 := k_i e13 h1
      have h15 := k_i e13 h2
      have h16 := k_i e13 h6
      obtain ⟨q17, c18, h⟩ := zbd h
      have g := g.tr (G_JInt_numberOfLeadingZeros g.cl c18)
      obtain ⟨v19, e20, h⟩ := zlet_ex h
      obtain ⟨h21, h⟩ := zif h
      have r7 : Rg (z_p q17.2 l0 5) := g.cl _ _ hR_l0
      obtain ⟨h22, h⟩ := zif h
      obtain ⟨h23, h⟩ := zif h
      obtain ⟨M24, e25, h⟩ := zlet_ex h
      have g := g.i r7 e25
      have h26 := k_i e25 h21
      have h27 := k_i e25 h22
      have r8 : Rg (z_p M24 l0 6) := g.cl _ _ hR_l0
      obtain ⟨h28, h⟩ := zif h
      obtain ⟨h29, h⟩ := zif h
      obtain ⟨M30, e31, h⟩ := zlet_ex h
      have g := g.i r8 e31
      have h32 := k_i e31 h26
      have h33 := k_i e31 h27
      have h34 := k_i e31 h28
      obtain ⟨v35, e36, h⟩ := zlet_ex h
      exact g.tr (ih l0 l1 v35 M30 g.cl hR_l0 h)
set_option maxRecDepth 100000 in
set_option maxHeartbeats 4000000 in
theorem g_Share_number_34 {Rg : Nat → Prop} {O : zO} {q : Unit × zM} {k2 : Nat → Int32 → zM → Option (Unit × zM)} (hk2 : ∀ (l0 : Nat) (l1 : Int32) (M : zM), zCl Rg M → Rg l0 → k2 l0 l1 M = some q → zFr Rg M q.2) : ∀ (n : Nat) (l0 : Nat) (l1 : Int32) (s0 : Nat) (s1 : Int32) (s2 : Int32) (M : zM), zCl Rg M → Rg l0 → Rg s0 → f_Share_number_34 O k2 n l0 l1 s0 s1 s2 M = some q → zFr Rg M q.2 := by
  intro n l0 l1 s0 s1 s2 M hcl hR_l0 hR_s0 h
  rw [f_Share_number_34] at h
  have g := zFr.rf hcl
  obtain ⟨h1, h⟩ := zif h
  obtain ⟨h2, h⟩ := zif h
  obtain ⟨M3, e4, h⟩ := zlet_ex h
  have g := g.i hR_s0 e4
  have h5 := k_i e4 h1
  obtain ⟨v6, e7, h⟩ := zlet_ex h
  exact g.tr (hk2 l0 v6 M3 g.cl hR_l0 h)
set_option maxRecDepth 100000 in
set_option maxHeartbeats 4000000 in
theorem g_Share_number_2 {Rg : Nat → Prop} {O : zO} {q : Unit × zM} : ∀ (n : Nat) (l0 : Nat) (l1 : Int32) (M : zM), zCl Rg M → Rg l0 → f_Share_number_2 O n l0 l1 M = some q → zFr Rg M q.2 := by
  intro n
  induction n with
  | zero => intro l0 l1 M hcl hR_l0 h; rw [f_Share_number_2] at h; cases h
  | succ n ih =>
    intro l0 l1 M hcl hR_l0 h
    rw [f_Share_number_2] at h
    have g := zFr.rf hcl
    obtain ⟨h1, h⟩ := zif h
    by_cases c8 : (z_i M l0 1) < l1
    · have h := zift h c8
      obtain ⟨v2, e3, h⟩ := zlet_ex h
      exact g.tr (g_Share_number_50 n l0 v2 (0 : Int32) M g.cl hR_l0 h)
    · have h := ziff h c8
      have r1 : Rg (z_p M l0 3) := g.cl _ _ hR_l0
      have r2 : Rg (z_p M l0 2) := g.cl _ _ hR_l0
      obtain ⟨h4, h⟩ := zif h
      obtain ⟨h5, h⟩ := zif h
      by_cases c7 : 0 ≤ (z_i M (z_p M l0 2) l1.toNatClampNeg)
      · have h := zift h c7
        have r3 : Rg (z_p M l0 2) := g.cl _ _ hR_l0
        obtain ⟨h6, h⟩ := zif h
        exact g.tr (g_Share_number_34 ih n l0 l1 (z_p M l0 3) l1 (z_i M (z_p M l0 2) l1.toNatClampNeg) M g.cl hR_l0 r1 h)
      · have h := ziff h c7
        exact g.tr (g_Share_number_34 ih n l0 l1 (z_p M l0 3) l1 (1 : Int32) M g.cl hR_l0 r1 h)
set_option maxRecDepth 100000 in
set_option maxHeartbeats 4000000 in
theorem g_Share_number_0 {Rg : Nat → Prop} {O : zO} {q : Unit × zM} : ∀ (n : Nat) (l0 : Nat) (M : zM), zCl Rg M → Rg l0 → f_Share_number_0 O n l0 M = some q → zFr Rg M q.2 := by
  intro n l0 M hcl hR_l0 h
  rw [f_Share_number_0] at h
  have g := zFr.rf hcl
  exact g.tr (g_Share_number_2 n l0 (0 : Int32) M g.cl hR_l0 h)
theorem G_Share_number {Rg : Nat → Prop} {O : zO} {n : Nat} {l0 : Nat} {M : zM} {q : Unit × zM} (hcl : zCl Rg M) (hR_l0 : Rg l0) (h : F_Share_number O n l0 M = some q) : zFr Rg M q.2 := g_Share_number_0 n l0 M hcl hR_l0 h

set_option maxRecDepth 100000 in
set_option maxHeartbeats 4000000 in
theorem g_Share_lay_63 {Rg : Nat → Prop} {O : zO} {q : Unit × zM} {k52 : Nat → Int32 → Int32 → Int32 → zM → Option (Unit × zM)} (hk52 : ∀ (l0 : Nat) (l1 : Int32) (l2 : Int32) (l3 : Int32) (M : zM), zCl Rg M → Rg l0 → k52 l0 l1 l2 l3 M = some q → zFr Rg M q.2) : ∀ (n : Nat) (l0 : Nat) (l1 : Int32) (l2 : Int32) (l3 : Int32) (l4 : Int32) (M : zM), zCl Rg M → Rg l0 → f_Share_lay_63 O k52 n l0 l1 l2 l3 l4 M = some q → zFr Rg M q.2 := by
  intro n
  induction n with
  | zero => intro l0 l1 l2 l3 l4 M hcl hR_l0 h; rw [f_Share_lay_63] at h; cases h
  | succ n ih =>
    intro l0 l1 l2 l3 l4 M hcl hR_l0 h
    rw [f_Share_lay_63] at h
    have g := zFr.rf hcl
    obtain ⟨h1, h⟩ := zif h
    have r3 : Rg (z_p M l0 2) := g.cl _ _ hR_l0
    obtain ⟨h2, h⟩ := zif h
    obtain ⟨h3, h⟩ := zif h
    by_cases c17 : (z_i M (z_p M l0 2) l3.toNatClampNeg) ≤ l4
    · have h := zift h c17
      obtain ⟨v4, e5, h⟩ := zlet_ex h
      exact g.tr (hk52 l0 l1 l2 v4 M g.cl hR_l0 h)
    · have h := ziff h c17
      have r4 : Rg (z_p M l0 4) := g.cl _ _ hR_l0
      obtain ⟨h6, h⟩ := zif h
      obtain ⟨h7, h⟩ := zif h
      obtain ⟨M8, e9, h⟩ := zlet_ex h
      have g := g.i r4 e9
      have h10 := k_i e9 h1
      have h11 := k_i e9 h2
      have h12 := k_i e9 h6
      obtain ⟨q13, c14, h⟩ := zbd h
      have g := g.tr (G_Share_nextPlace g.cl hR_l0 c14)
      obtain ⟨v15, e16, h⟩ := zlet_ex h
      exact g.tr (ih l0 l1 q13.1 l3 v15 q13.2 g.cl hR_l0 h)
set_option maxRecDepth 100000 in
set_option maxHeartbeats 4000000 in
theorem g_Share_lay_52 {Rg : Nat → Prop} {O : zO} {q : Unit × zM} : ∀ (n : Nat) (l0 : Nat) (l1 : Int32) (l2 : Int32) (l3 : Int32) (M : zM), zCl Rg M → Rg l0 → f_Share_lay_52 O n l0 l1 l2 l3 M = some q → zFr Rg M q.2 := by
  intro n
  induction n with
  | zero => intro l0 l1 l2 l3 M hcl hR_l0 h; rw [f_Share_lay_52] at h; cases h
  | succ n ih =>
    intro l0 l1 l2 l3 M hcl hR_l0 h
    rw [f_Share_lay_52] at h
    have g := zFr.rf hcl
    obtain ⟨h1, h⟩ := zif h
    by_cases c4 : (z_i M l0 1) < l3
    · have h := zift h c4
      obtain ⟨q2, c3, h⟩ := zbd h
      have g := g.tr (G_Share_number g.cl hR_l0 c3)
      obtain rfl := z_res h
      exact g
    · have h := ziff h c4
      exact g.tr (g_Share_lay_63 ih n l0 l1 l2 l3 (0 : Int32) M g.cl hR_l0 h)
set_option maxRecDepth 100000 in
set_option maxHeartbeats 4000000 in
theorem g_Share_lay_42 {Rg : Nat → Prop} {O : zO} {q : Unit × zM} {k11 : Nat → Int32 → Int32 → zM → Option (Unit × zM)} (hk11 : ∀ (l0 : Nat) (l1 : Int32) (l2 : Int32) (M : zM), zCl Rg M → Rg l0 → k11 l0 l1 l2 M = some q → zFr Rg M q.2) : ∀ (n : Nat) (l0 : Nat) (l1 : Int32) (l2 : Int32) (M : zM), zCl Rg M → Rg l0 → f_Share_lay_42 O k11 n l0 l1 l2 M = some q → zFr Rg M q.2 := by
  intro n l0 l1 l2 M hcl hR_l0 h
  rw [f_Share_lay_42] at h
  have g := zFr.rf hcl
  obtain ⟨v1, e2, h⟩ := zlet_ex h
  exact g.tr (hk11 l0 l1 v1 M g.cl hR_l0 h)
set_option maxRecDepth 100000 in
set_option maxHeartbeats 4000000 in
theorem g_Share_lay_11 {Rg : Nat → Prop} {O : zO} {q : Unit × zM} : ∀ (n : Nat) (l0 : Nat) (l1 : Int32) (l2 : Int32) (M : zM), zCl Rg M → Rg l0 → f_Share_lay_11 O n l0 l1 l2 M = some q → zFr Rg M q.2 := by
  intro n
  induction n with
  | zero => intro l0 l1 l2 M hcl hR_l0 h; rw [f_Share_lay_11] at h; cases h
  | succ n ih =>
    intro l0 l1 l2 M hcl hR_l0 h
    rw [f_Share_lay_11] at h
    have g := zFr.rf hcl
    obtain ⟨h1, h⟩ := zif h
    by_cases c15 : (z_i M l0 1) < l2
    · have h := zift h c15
      exact g.tr (g_Share_lay_52 n l0 l1 (0 : Int32) (0 : Int32) M g.cl hR_l0 h)
    · have h := ziff h c15
      have r1 : Rg (z_p M l0 2) := g.cl _ _ hR_l0
      obtain ⟨h2, h⟩ := zif h
      obtain ⟨h3, h⟩ := zif h
      by_cases c14 : 0 ≤ (z_i M (z_p M l0 2) l2.toNatClampNeg)
      · have h := zift h c14
        exact g.tr (g_Share_lay_42 ih n l0 l1 l2 M g.cl hR_l0 h)
      · have h := ziff h c14
        by_cases c13 : l1 < 0
        · have h := zift h c13
          exact g.tr (g_Share_lay_42 ih n l0 l1 l2 M g.cl hR_l0 h)
        · have h := ziff h c13
          have r2 : Rg (z_p M l0 4) := g.cl _ _ hR_l0
          obtain ⟨h4, h⟩ := zif h
          obtain ⟨h5, h⟩ := zif h
          obtain ⟨M6, e7, h⟩ := zlet_ex h
          have g := g.i r2 e7
          have h8 := k_i e7 h1
          have h9 := k_i e7 h2
          have h10 := k_i e7 h4
          obtain ⟨v11, e12, h⟩ := zlet_ex h
          exact g.tr (g_Share_lay_42 ih n l0 v11 l2 M6 g.cl hR_l0 h)
set_option maxRecDepth 100000 in
set_option maxHeartbeats 4000000 in
theorem g_Share_lay_0 {Rg : Nat → Prop} {O : zO} {q : Unit × zM} : ∀ (n : Nat) (l0 : Nat) (M : zM), zCl Rg M → Rg l0 → f_Share_lay_0 O n l0 M = some q → zFr Rg M q.2 := by
  intro n l0 M hcl hR_l0 h
  rw [f_Share_lay_0] at h
  have g := zFr.rf hcl
  obtain ⟨h1, h⟩ := zif h
  obtain ⟨v2, e3, h⟩ := zlet_ex h
  exact g.tr (g_Share_lay_11 n l0 v2 (0 : Int32) M g.cl hR_l0 h)
theorem G_Share_lay {Rg : Nat → Prop} {O : zO} {n : Nat} {l0 : Nat} {M : zM} {q : Unit × zM} (hcl : zCl Rg M) (hR_l0 : Rg l0) (h : F_Share_lay O n l0 M = some q) : zFr Rg M q.2 := g_Share_lay_0 n l0 M hcl hR_l0 h

set_option maxRecDepth 100000 in
set_option maxHeartbeats 4000000 in
theorem g_Share_setPoints_40 {Rg : Nat → Prop} {O : zO} {q : Unit × zM} {k14 : Nat → Nat → Int32 → zM → Option (Unit × zM)} (hk14 : ∀ (l0 : Nat) (l2 : Nat) (l3 : Int32) (M : zM), zCl Rg M → Rg l0 → Rg l2 → k14 l0 l2 l3 M = some q → zFr Rg M q.2) : ∀ (n : Nat) (l0 : Nat) (l2 : Nat) (l3 : Int32) (s0 : Nat) (s1 : Int32) (s2 : Int32) (M : zM), zCl Rg M → Rg l0 → Rg l2 → Rg s0 → f_Share_setPoints_40 O k14 n l0 l2 l3 s0 s1 s2 M = some q → zFr Rg M q.2 := by
  intro n l0 l2 l3 s0 s1 s2 M hcl hR_l0 hR_l2 hR_s0 h
  rw [f_Share_setPoints_40] at h
  have g := zFr.rf hcl
  obtain ⟨h1, h⟩ := zif h
  obtain ⟨h2, h⟩ := zif h
  obtain ⟨M3, e4, h⟩ := zlet_ex h
  have g := g.i hR_s0 e4
  have h5 := k_i e4 h1
  obtain ⟨v6, e7, h⟩ := zlet_ex h
  exact g.tr (hk14 l0 l2 v6 M3 g.cl hR_l0 hR_l2 h)
set_option maxRecDepth 100000 in
set_option maxHeartbeats 4000000 in
theorem g_Share_setPoints_14 {Rg : Nat → Prop} {O : zO} {q : Unit × zM} : ∀ (n : Nat) (l0 : Nat) (l2 : Nat) (l3 : Int32) (M : zM), zCl Rg M → Rg l0 → Rg l2 → f_Share_setPoints_14 O n l0 l2 l3 M = some q → zFr Rg M q.2 := by
  intro n
  induction n with
  | zero => intro l0 l2 l3 M hcl hR_l0 hR_l2 h; rw [f_Share_setPoints_14] at h; cases h
  | succ n ih =>
    intro l0 l2 l3 M hcl hR_l0 hR_l2 h
    rw [f_Share_setPoints_14] at h
    have g := zFr.rf hcl
    obtain ⟨h1, h⟩ := zif h
    by_cases c8 : (z_i M l0 1) < l3
    · have h := zift h c8
      obtain ⟨q2, c3, h⟩ := zbd h
      have g := g.tr (G_Share_lay g.cl hR_l0 c3)
      obtain rfl := z_res h
      exact g
    · have h := ziff h c8
      have r1 : Rg (z_p M l0 2) := g.cl _ _ hR_l0
      obtain ⟨h4, h⟩ := zif h
      by_cases c7 : (Int32.ofNat (O.2.2.1 l2)) ≤ l3
      · have h := zift h c7
        exact g.tr (g_Share_setPoints_40 ih n l0 l2 l3 (z_p M l0 2) l3 (0 : Int32) M g.cl hR_l0 hR_l2 r1 h)
      · have h := ziff h c7
        obtain ⟨h5, h⟩ := zif h
        obtain ⟨h6, h⟩ := zif h
        exact g.tr (g_Share_setPoints_40 ih n l0 l2 l3 (z_p M l0 2) l3 (O.2.2.2 l2 l3.toNatClampNeg) M g.cl hR_l0 hR_l2 r1 h)
set_option maxRecDepth 100000 in
set_option maxHeartbeats 4000000 in
theorem g_Share_setPoints_0 {Rg : Nat → Prop} {O : zO} {q : Unit × zM} : ∀ (n : Nat) (l0 : Nat) (l1 : Int32) (l2 : Nat) (M : zM), zCl Rg M → Rg l0 → Rg l2 → f_Share_setPoints_0 O n l0 l1 l2 M = some q → zFr Rg M q.2 := by
  intro n l0 l1 l2 M hcl hR_l0 hR_l2 h
  rw [f_Share_setPoints_0] at h
  have g := zFr.rf hcl
  obtain ⟨h1, h⟩ := zif h
  obtain ⟨q2, c3, h⟩ := zbd h
  have g := g.tr (G_JMath_min g.cl c3)
  obtain ⟨h4, h⟩ := zif h
  obtain ⟨M5, e6, h⟩ := zlet_ex h
  have g := g.i hR_l0 e6
  have h7 := k_i e6 h4
  exact g.tr (g_Share_setPoints_14 n l0 l2 (0 : Int32) M5 g.cl hR_l0 hR_l2 h)
theorem G_Share_setPoints {Rg : Nat → Prop} {O : zO} {n : Nat} {l0 : Nat} {l1 : Int32} {l2 : Nat} {M : zM} {q : Unit × zM} (hcl : zCl Rg M) (hR_l0 : Rg l0) (hR_l2 : Rg l2) (h : F_Share_setPoints O n l0 l1 l2 M = some q) : zFr Rg M q.2 := g_Share_setPoints_0 n l0 l1 l2 M hcl hR_l0 hR_l2 h

set_option maxRecDepth 100000 in
set_option maxHeartbeats 4000000 in
theorem g_Row_hasRoom_21 {Rg : Nat → Prop} {O : zO} {q : Int32 × zM} : ∀ (n : Nat) (s0 : Int32) (M : zM), zCl Rg M → f_Row_hasRoom_21 O n s0 M = some q → zFr Rg M q.2 := by
  intro n s0 M hcl h
  rw [f_Row_hasRoom_21] at h
  have g := zFr.rf hcl
  obtain ⟨h1, h⟩ := zif h
  obtain rfl := z_res h
  exact g
set_option maxRecDepth 100000 in
set_option maxHeartbeats 4000000 in
theorem g_Row_hasRoom_0 {Rg : Nat → Prop} {O : zO} {q : Int32 × zM} : ∀ (n : Nat) (l0 : Nat) (l1 : Int64) (M : zM), zCl Rg M → Rg l0 → f_Row_hasRoom_0 O n l0 l1 M = some q → zFr Rg M q.2 := by
  intro n l0 l1 M hcl hR_l0 h
  rw [f_Row_hasRoom_0] at h
  have g := zFr.rf hcl
  obtain ⟨h1, h⟩ := zif h
  have r1 : Rg (z_p M l0 0) := g.cl _ _ hR_l0
  obtain ⟨h2, h⟩ := zif h
  by_cases c3 : 0 < (lg_cmp l1 ((Int32.ofNat (z_n M (z_p M l0 0))) - (z_i M l0 1)).toInt64)
  · have h := zift h c3
    exact g.tr (g_Row_hasRoom_21 n (0 : Int32) M g.cl h)
  · have h := ziff h c3
    exact g.tr (g_Row_hasRoom_21 n (1 : Int32) M g.cl h)
theorem G_Row_hasRoom {Rg : Nat → Prop} {O : zO} {n : Nat} {l0 : Nat} {l1 : Int64} {M : zM} {q : Int32 × zM} (hcl : zCl Rg M) (hR_l0 : Rg l0) (h : F_Row_hasRoom O n l0 l1 M = some q) : zFr Rg M q.2 := g_Row_hasRoom_0 n l0 l1 M hcl hR_l0 h

set_option maxRecDepth 100000 in
set_option maxHeartbeats 4000000 in
theorem g_Row_put_33 {Rg : Nat → Prop} {O : zO} {q : Unit × zM} : ∀ (n : Nat) (M : zM), zCl Rg M → f_Row_put_33 O n M = some q → zFr Rg M q.2 := by
  intro n M hcl h
  rw [f_Row_put_33] at h
  have g := zFr.rf hcl
  obtain rfl := z_res h
  exact g
set_option maxRecDepth 100000 in
set_option maxHeartbeats 4000000 in
theorem g_Row_put_0 {Rg : Nat → Prop} {O : zO} {q : Unit × zM} : ∀ (n : Nat) (l0 : Nat) (l1 : Int32) (M : zM), zCl Rg M → Rg l0 → f_Row_put_0 O n l0 l1 M = some q → zFr Rg M q.2 := by
  intro n l0 l1 M hcl hR_l0 h
  rw [f_Row_put_0] at h
  have g := zFr.rf hcl
  obtain ⟨h1, h⟩ := zif h
  have r1 : Rg (z_p M l0 0) := g.cl _ _ hR_l0
  obtain ⟨h2, h⟩ := zif h
  by_cases c12 : (Int32.ofNat (z_n M (z_p M l0 0))) ≤ (z_i M l0 1)
  · have h := zift h c12
    exact g.tr (g_Row_put_33 n M g.cl h)
  · have h := ziff h c12
    have r2 : Rg (z_p M l0 0) := g.cl _ _ hR_l0
    obtain ⟨h3, h⟩ := zif h
    obtain ⟨M4, e5, h⟩ := zlet_ex h
    have g := g.i r2 e5
    have h6 := k_i e5 h1
    have h7 := k_i e5 h2
    obtain ⟨M8, e9, h⟩ := zlet_ex h
    have g := g.i hR_l0 e9
    have h10 := k_i e9 h6
    have h11 := k_i e9 h7
    exact g.tr (g_Row_put_33 n M8 g.cl h)
theorem G_Row_put {Rg : Nat → Prop} {O : zO} {n : Nat} {l0 : Nat} {l1 : Int32} {M : zM} {q : Unit × zM} (hcl : zCl Rg M) (hR_l0 : Rg l0) (h : F_Row_put O n l0 l1 M = some q) : zFr Rg M q.2 := g_Row_put_0 n l0 l1 M hcl hR_l0 h

set_option maxRecDepth 100000 in
set_option maxHeartbeats 4000000 in
theorem g_SF_write_23 {Rg : Nat → Prop} {O : zO} {q : Int32 × zM} : ∀ (n : Nat) (M : zM), zCl Rg M → f_SF_write_23 O n M = some q → zFr Rg M q.2 := by
  intro n M hcl h
  rw [f_SF_write_23] at h
  have g := zFr.rf hcl
  obtain rfl := z_res h
  exact g
set_option maxRecDepth 100000 in
set_option maxHeartbeats 4000000 in
theorem g_SF_write_28 {Rg : Nat → Prop} {O : zO} {q : Int32 × zM} : ∀ (n : Nat) (l0 : Nat) (l1 : Int64) (l3 : Int32) (l4 : Int32) (M : zM), zCl Rg M → Rg l0 → f_SF_write_28 O n l0 l1 l3 l4 M = some q → zFr Rg M q.2 := by
  intro n
  induction n with
  | zero => intro l0 l1 l3 l4 M hcl hR_l0 h; rw [f_SF_write_28] at h; cases h
  | succ n ih =>
    intro l0 l1 l3 l4 M hcl hR_l0 h
    rw [f_SF_write_28] at h
    have g := zFr.rf hcl
    by_cases c7 : l3 ≤ l4
    · have h := zift h c7
      obtain rfl := z_res h
      exact g
    · have h := ziff h c7
      obtain ⟨h1, h⟩ := zif h
      have r2 : Rg (z_p M l0 0) := g.cl _ _ hR_l0
      obtain ⟨h2, h⟩ := zif h
      obtain ⟨q3, c4, h⟩ := zbd h
      have g := g.tr (G_Row_put g.cl r2 c4)
      obtain ⟨v5, e6, h⟩ := zlet_ex h
      exact g.tr (ih l0 l1 l3 v5 q3.2 g.cl hR_l0 h)
set_option maxRecDepth 100000 in
set_option maxHeartbeats 4000000 in
theorem g_SF_write_0 {Rg : Nat → Prop} {O : zO} {q : Int32 × zM} : ∀ (n : Nat) (l0 : Nat) (l1 : Int64) (l3 : Int32) (M : zM), zCl Rg M → Rg l0 → f_SF_write_0 O n l0 l1 l3 M = some q → zFr Rg M q.2 := by
  intro n l0 l1 l3 M hcl hR_l0 h
  rw [f_SF_write_0] at h
  have g := zFr.rf hcl
  by_cases c7 : l3 < (1 : Int32)
  · have h := zift h c7
    exact g.tr (g_SF_write_23 n M g.cl h)
  · have h := ziff h c7
    by_cases c6 : (8 : Int32) < l3
    · have h := zift h c6
      exact g.tr (g_SF_write_23 n M g.cl h)
    · have h := ziff h c6
      obtain ⟨h1, h⟩ := zif h
      have r1 : Rg (z_p M l0 0) := g.cl _ _ hR_l0
      obtain ⟨h2, h⟩ := zif h
      obtain ⟨q3, c4, h⟩ := zbd h
      have g := g.tr (G_Row_hasRoom g.cl r1 c4)
      by_cases c5 : q3.1 = 0
      · have h := zift h c5
        exact g.tr (g_SF_write_23 n q3.2 g.cl h)
      · have h := ziff h c5
        exact g.tr (g_SF_write_28 n l0 l1 l3 (0 : Int32) q3.2 g.cl hR_l0 h)
theorem G_SF_write {Rg : Nat → Prop} {O : zO} {n : Nat} {l0 : Nat} {l1 : Int64} {l3 : Int32} {M : zM} {q : Int32 × zM} (hcl : zCl Rg M) (hR_l0 : Rg l0) (h : F_SF_write O n l0 l1 l3 M = some q) : zFr Rg M q.2 := g_SF_write_0 n l0 l1 l3 M hcl hR_l0 h

set_option maxRecDepth 100000 in
set_option maxHeartbeats 4000000 in
theorem g_Row_putBack_13 {Rg : Nat → Prop} {O : zO} {q : Unit × zM} : ∀ (n : Nat) (M : zM), zCl Rg M → f_Row_putBack_13 O n M = some q → zFr Rg M q.2 := by
  intro n M hcl h
  rw [f_Row_putBack_13] at h
  have g := zFr.rf hcl
  obtain rfl := z_res h
  exact g
set_option maxRecDepth 100000 in
set_option maxHeartbeats 4000000 in
theorem g_Row_putBack_34 {Rg : Nat → Prop} {O : zO} {q : Unit × zM} : ∀ (n : Nat) (l0 : Nat) (l1 : Int32) (l3 : Int32) (M : zM), zCl Rg M → Rg l0 → f_Row_putBack_34 O n l0 l1 l3 M = some q → zFr Rg M q.2 := by
  intro n
  induction n with
  | zero => intro l0 l1 l3 M hcl hR_l0 h; rw [f_Row_putBack_34] at h; cases h
  | succ n ih =>
    intro l0 l1 l3 M hcl hR_l0 h
    rw [f_Row_putBack_34] at h
    have g := zFr.rf hcl
    obtain ⟨h1, h⟩ := zif h
    by_cases c13 : l3 ≤ (z_i M l0 1)
    · have h := zift h c13
      obtain rfl := z_res h
      exact g
    · have h := ziff h c13
      have r2 : Rg (z_p M l0 0) := g.cl _ _ hR_l0
      have r3 : Rg (z_p M l0 0) := g.cl _ _ hR_l0
      obtain ⟨h2, h⟩ := zif h
      obtain ⟨h3, h⟩ := zif h
      obtain ⟨h4, h⟩ := zif h
      obtain ⟨M5, e6, h⟩ := zlet_ex h
      have g := g.i r3 e6
      have h7 := k_i e6 h1
      have h8 := k_i e6 h2
      obtain ⟨M9, e10, h⟩ := zlet_ex h
      have g := g.i hR_l0 e10
      have h11 := k_i e10 h7
      have h12 := k_i e10 h8
      exact g.tr (ih l0 l1 l3 M9 g.cl hR_l0 h)
set_option maxRecDepth 100000 in
set_option maxHeartbeats 4000000 in
theorem g_Row_putBack_0 {Rg : Nat → Prop} {O : zO} {q : Unit × zM} : ∀ (n : Nat) (l0 : Nat) (l1 : Int32) (l2 : Int32) (M : zM), zCl Rg M → Rg l0 → f_Row_putBack_0 O n l0 l1 l2 M = some q → zFr Rg M q.2 := by
  intro n l0 l1 l2 M hcl hR_l0 h
  rw [f_Row_putBack_0] at h
  have g := zFr.rf hcl
  by_cases c8 : l1 < (1 : Int32)
  · have h := zift h c8
    exact g.tr (g_Row_putBack_13 n M g.cl h)
  · have h := ziff h c8
    obtain ⟨h1, h⟩ := zif h
    by_cases c7 : l1 ≤ (z_i M l0 1)
    · have h := zift h c7
      have r1 : Rg (z_p M l0 0) := g.cl _ _ hR_l0
      obtain ⟨h2, h⟩ := zif h
      obtain ⟨q3, c4, h⟩ := zbd h
      have g := g.tr (G_JMath_min g.cl c4)
      obtain ⟨v5, e6, h⟩ := zlet_ex h
      exact g.tr (g_Row_putBack_34 n l0 l1 v5 q3.2 g.cl hR_l0 h)
    · have h := ziff h c7
      exact g.tr (g_Row_putBack_13 n M g.cl h)
theorem G_Row_putBack {Rg : Nat → Prop} {O : zO} {n : Nat} {l0 : Nat} {l1 : Int32} {l2 : Int32} {M : zM} {q : Unit × zM} (hcl : zCl Rg M) (hR_l0 : Rg l0) (h : F_Row_putBack O n l0 l1 l2 M = some q) : zFr Rg M q.2 := g_Row_putBack_0 n l0 l1 l2 M hcl hR_l0 h

set_option maxRecDepth 100000 in
set_option maxHeartbeats 4000000 in
theorem g_SF_again_35 {Rg : Nat → Prop} {O : zO} {q : Int32 × zM} : ∀ (n : Nat) (M : zM), zCl Rg M → f_SF_again_35 O n M = some q → zFr Rg M q.2 := by
  intro n M hcl h
  rw [f_SF_again_35] at h
  have g := zFr.rf hcl
  obtain rfl := z_res h
  exact g
set_option maxRecDepth 100000 in
set_option maxHeartbeats 4000000 in
theorem g_SF_again_0 {Rg : Nat → Prop} {O : zO} {q : Int32 × zM} : ∀ (n : Nat) (l0 : Nat) (l1 : Int32) (l2 : Int32) (M : zM), zCl Rg M → Rg l0 → f_SF_again_0 O n l0 l1 l2 M = some q → zFr Rg M q.2 := by
  intro n l0 l1 l2 M hcl hR_l0 h
  rw [f_SF_again_0] at h
  have g := zFr.rf hcl
  by_cases c12 : l1 < (1 : Int32)
  · have h := zift h c12
    exact g.tr (g_SF_again_35 n M g.cl h)
  · have h := ziff h c12
    obtain ⟨h1, h⟩ := zif h
    have r1 : Rg (z_p M l0 0) := g.cl _ _ hR_l0
    obtain ⟨h2, h⟩ := zif h
    by_cases c11 : (z_i M (z_p M l0 0) 1) < l1
    · have h := zift h c11
      exact g.tr (g_SF_again_35 n M g.cl h)
    · have h := ziff h c11
      by_cases c10 : l2 < 0
      · have h := zift h c10
        exact g.tr (g_SF_again_35 n M g.cl h)
      · have h := ziff h c10
        have r2 : Rg (z_p M l0 0) := g.cl _ _ hR_l0
        obtain ⟨q3, c4, h⟩ := zbd h
        have g := g.tr (G_Row_hasRoom g.cl r2 c4)
        by_cases c9 : q3.1 = 0
        · have h := zift h c9
          exact g.tr (g_SF_again_35 n q3.2 g.cl h)
        · have h := ziff h c9
          obtain ⟨h5, h⟩ := zif h
          have r3 : Rg (z_p q3.2 l0 0) := g.cl _ _ hR_l0
          obtain ⟨h6, h⟩ := zif h
          obtain ⟨q7, c8, h⟩ := zbd h
          have g := g.tr (G_Row_putBack g.cl r3 c8)
          obtain rfl := z_res h
          exact g
theorem G_SF_again {Rg : Nat → Prop} {O : zO} {n : Nat} {l0 : Nat} {l1 : Int32} {l2 : Int32} {M : zM} {q : Int32 × zM} (hcl : zCl Rg M) (hR_l0 : Rg l0) (h : F_SF_again O n l0 l1 l2 M = some q) : zFr Rg M q.2 := g_SF_again_0 n l0 l1 l2 M hcl hR_l0 h

set_option maxRecDepth 100000 in
set_option maxHeartbeats 4000000 in
theorem g_Row_empty_0 {Rg : Nat → Prop} {O : zO} {q : Unit × zM} : ∀ (n : Nat) (l0 : Nat) (M : zM), zCl Rg M → Rg l0 → f_Row_empty_0 O n l0 M = some q → zFr Rg M q.2 := by
  intro n l0 M hcl hR_l0 h
  rw [f_Row_empty_0] at h
  have g := zFr.rf hcl
  obtain ⟨h1, h⟩ := zif h
  obtain ⟨M2, e3, h⟩ := zlet_ex h
  have g := g.i hR_l0 e3
  have h4 := k_i e3 h1
  obtain rfl := z_res h
  exact g
theorem G_Row_empty {Rg : Nat → Prop} {O : zO} {n : Nat} {l0 : Nat} {M : zM} {q : Unit × zM} (hcl : zCl Rg M) (hR_l0 : Rg l0) (h : F_Row_empty O n l0 M = some q) : zFr Rg M q.2 := g_Row_empty_0 n l0 M hcl hR_l0 h

set_option maxRecDepth 100000 in
set_option maxHeartbeats 4000000 in
theorem g_SF_clear_0 {Rg : Nat → Prop} {O : zO} {q : Unit × zM} : ∀ (n : Nat) (l0 : Nat) (M : zM), zCl Rg M → Rg l0 → f_SF_clear_0 O n l0 M = some q → zFr Rg M q.2 := by
  intro n l0 M hcl hR_l0 h
  rw [f_SF_clear_0] at h
  have g := zFr.rf hcl
  obtain ⟨h1, h⟩ := zif h
  have r1 : Rg (z_p M l0 0) := g.cl _ _ hR_l0
  obtain ⟨h2, h⟩ := zif h
  obtain ⟨q3, c4, h⟩ := zbd h
  have g := g.tr (G_Row_empty g.cl r1 c4)
  obtain rfl := z_res h
  exact g
theorem G_SF_clear {Rg : Nat → Prop} {O : zO} {n : Nat} {l0 : Nat} {M : zM} {q : Unit × zM} (hcl : zCl Rg M) (hR_l0 : Rg l0) (h : F_SF_clear O n l0 M = some q) : zFr Rg M q.2 := g_SF_clear_0 n l0 M hcl hR_l0 h

set_option maxRecDepth 100000 in
set_option maxHeartbeats 4000000 in
theorem g_Row_number_53 {Rg : Nat → Prop} {O : zO} {q : Int64 × zM} : ∀ (n : Nat) (l3 : Int64) (M : zM), zCl Rg M → f_Row_number_53 O n l3 M = some q → zFr Rg M q.2 := by
  intro n l3 M hcl h
  rw [f_Row_number_53] at h
  have g := zFr.rf hcl
  obtain rfl := z_res h
  exact g
set_option maxRecDepth 100000 in
set_option maxHeartbeats 4000000 in
theorem g_Row_number_23 {Rg : Nat → Prop} {O : zO} {q : Int64 × zM} : ∀ (n : Nat) (l0 : Nat) (l1 : Int32) (l3 : Int64) (l5 : Int32) (M : zM), zCl Rg M → Rg l0 → f_Row_number_23 O n l0 l1 l3 l5 M = some q → zFr Rg M q.2 := by
  intro n
  induction n with
  | zero => intro l0 l1 l3 l5 M hcl hR_l0 h; rw [f_Row_number_23] at h; cases h
  | succ n ih =>
    intro l0 l1 l3 l5 M hcl hR_l0 h
    rw [f_Row_number_23] at h
    have g := zFr.rf hcl
    by_cases c8 : l5 < l1
    · have h := zift h c8
      exact g.tr (g_Row_number_53 n l3 M g.cl h)
    · have h := ziff h c8
      obtain ⟨h1, h⟩ := zif h
      have r1 : Rg (z_p M l0 0) := g.cl _ _ hR_l0
      obtain ⟨h2, h⟩ := zif h
      obtain ⟨h3, h⟩ := zif h
      obtain ⟨v4, e5, h⟩ := zlet_ex h
      obtain ⟨v6, e7, h⟩ := zlet_ex h
      exact g.tr (ih l0 l1 v4 v6 M g.cl hR_l0 h)
set_option maxRecDepth 100000 in
set_option maxHeartbeats 4000000 in
theorem g_Row_number_0 {Rg : Nat → Prop} {O : zO} {q : Int64 × zM} : ∀ (n : Nat) (l0 : Nat) (l1 : Int32) (l2 : Int32) (M : zM), zCl Rg M → Rg l0 → f_Row_number_0 O n l0 l1 l2 M = some q → zFr Rg M q.2 := by
  intro n l0 l1 l2 M hcl hR_l0 h
  rw [f_Row_number_0] at h
  have g := zFr.rf hcl
  by_cases c5 : l1 < 0
  · have h := zift h c5
    exact g.tr (g_Row_number_53 n (0 : Int64) M g.cl h)
  · have h := ziff h c5
    obtain ⟨h1, h⟩ := zif h
    by_cases c4 : ((z_i M l0 1) - l2) < l1
    · have h := zift h c4
      exact g.tr (g_Row_number_53 n (0 : Int64) M g.cl h)
    · have h := ziff h c4
      obtain ⟨v2, e3, h⟩ := zlet_ex h
      exact g.tr (g_Row_number_23 n l0 l1 (0 : Int64) v2 M g.cl hR_l0 h)
theorem G_Row_number {Rg : Nat → Prop} {O : zO} {n : Nat} {l0 : Nat} {l1 : Int32} {l2 : Int32} {M : zM} {q : Int64 × zM} (hcl : zCl Rg M) (hR_l0 : Rg l0) (h : F_Row_number O n l0 l1 l2 M = some q) : zFr Rg M q.2 := g_Row_number_0 n l0 l1 l2 M hcl hR_l0 h

set_option maxRecDepth 100000 in
set_option maxHeartbeats 4000000 in
theorem g_Row_at_26 {Rg : Nat → Prop} {O : zO} {q : Int32 × zM} : ∀ (n : Nat) (s0 : Int32) (M : zM), zCl Rg M → f_Row_at_26 O n s0 M = some q → zFr Rg M q.2 := by
  intro n s0 M hcl h
  rw [f_Row_at_26] at h
  have g := zFr.rf hcl
  obtain rfl := z_res h
  exact g
set_option maxRecDepth 100000 in
set_option maxHeartbeats 4000000 in
theorem g_Row_at_25 {Rg : Nat → Prop} {O : zO} {q : Int32 × zM} : ∀ (n : Nat) (M : zM), zCl Rg M → f_Row_at_25 O n M = some q → zFr Rg M q.2 := by
  intro n M hcl h
  rw [f_Row_at_25] at h
  have g := zFr.rf hcl
  exact g.tr (g_Row_at_26 n (0 : Int32) M g.cl h)
set_option maxRecDepth 100000 in
set_option maxHeartbeats 4000000 in
theorem g_Row_at_0 {Rg : Nat → Prop} {O : zO} {q : Int32 × zM} : ∀ (n : Nat) (l0 : Nat) (l1 : Int32) (M : zM), zCl Rg M → Rg l0 → f_Row_at_0 O n l0 l1 M = some q → zFr Rg M q.2 := by
  intro n l0 l1 M hcl hR_l0 h
  rw [f_Row_at_0] at h
  have g := zFr.rf hcl
  by_cases c5 : l1 < 0
  · have h := zift h c5
    exact g.tr (g_Row_at_25 n M g.cl h)
  · have h := ziff h c5
    obtain ⟨h1, h⟩ := zif h
    by_cases c4 : (z_i M l0 1) ≤ l1
    · have h := zift h c4
      exact g.tr (g_Row_at_25 n M g.cl h)
    · have h := ziff h c4
      have r1 : Rg (z_p M l0 0) := g.cl _ _ hR_l0
      obtain ⟨h2, h⟩ := zif h
      obtain ⟨h3, h⟩ := zif h
      exact g.tr (g_Row_at_26 n ((z_i M (z_p M l0 0) l1.toNatClampNeg) &&& (255 : Int32)) M g.cl h)
theorem G_Row_at {Rg : Nat → Prop} {O : zO} {n : Nat} {l0 : Nat} {l1 : Int32} {M : zM} {q : Int32 × zM} (hcl : zCl Rg M) (hR_l0 : Rg l0) (h : F_Row_at O n l0 l1 M = some q) : zFr Rg M q.2 := g_Row_at_0 n l0 l1 M hcl hR_l0 h

set_option maxRecDepth 100000 in
set_option maxHeartbeats 4000000 in
theorem g_Codes_addWeight_0 {Rg : Nat → Prop} {O : zO} {q : Int32 × zM} : ∀ (n : Nat) (l0 : Nat) (l1 : Int32) (M : zM), zCl Rg M → Rg l0 → f_Codes_addWeight_0 O n l0 l1 M = some q → zFr Rg M q.2 := by
  intro n l0 l1 M hcl hR_l0 h
  rw [f_Codes_addWeight_0] at h
  have g := zFr.rf hcl
  obtain ⟨h1, h⟩ := zif h
  by_cases c12 : (z_i M l0 6) < (255 : Int32)
  · have h := zift h c12
    have r1 : Rg (z_p M l0 0) := g.cl _ _ hR_l0
    obtain ⟨h2, h⟩ := zif h
    obtain ⟨h3, h⟩ := zif h
    obtain ⟨M4, e5, h⟩ := zlet_ex h
    have g := g.i r1 e5
    have h6 := k_i e5 h1
    have h7 := k_i e5 h2
    obtain ⟨M8, e9, h⟩ := zlet_ex h
    have g := g.i hR_l0 e9
    have h10 := k_i e9 h6
    have h11 := k_i e9 h7
    obtain rfl := z_res h
    exact g
  · have h := ziff h c12
    obtain rfl := z_res h
    exact g
theorem G_Codes_addWeight {Rg : Nat → Prop} {O : zO} {n : Nat} {l0 : Nat} {l1 : Int32} {M : zM} {q : Int32 × zM} (hcl : zCl Rg M) (hR_l0 : Rg l0) (h : F_Codes_addWeight O n l0 l1 M = some q) : zFr Rg M q.2 := g_Codes_addWeight_0 n l0 l1 M hcl hR_l0 h

set_option maxRecDepth 100000 in
set_option maxHeartbeats 4000000 in
theorem g_Codes_takePlain_46 {Rg : Nat → Prop} {O : zO} {q : Unit × zM} {k8 : Nat → Nat → Int32 → Int32 → Int32 → zM → Option (Unit × zM)} (hk8 : ∀ (l0 : Nat) (l1 : Nat) (l2 : Int32) (l3 : Int32) (l4 : Int32) (M : zM), zCl Rg M → Rg l0 → Rg l1 → k8 l0 l1 l2 l3 l4 M = some q → zFr Rg M q.2) : ∀ (n : Nat) (l0 : Nat) (l1 : Nat) (l2 : Int32) (l3 : Int32) (l4 : Int32) (s0 : Nat) (s1 : Int32) (M : zM), zCl Rg M → Rg l0 → Rg l1 → Rg s0 → f_Codes_takePlain_46 O k8 n l0 l1 l2 l3 l4 s0 s1 M = some q → zFr Rg M q.2 := by
  intro n l0 l1 l2 l3 l4 s0 s1 M hcl hR_l0 hR_l1 hR_s0 h
  rw [f_Codes_takePlain_46] at h
  have g := zFr.rf hcl
  obtain ⟨h1, h⟩ := zif h
  obtain ⟨q2, c3, h⟩ := zbd h
  have g := g.tr (G_Codes_addWeight g.cl hR_s0 c3)
  obtain ⟨v4, e5, h⟩ := zlet_ex h
  exact g.tr (hk8 l0 l1 l2 l3 v4 q2.2 g.cl hR_l0 hR_l1 h)
set_option maxRecDepth 100000 in
set_option maxHeartbeats 4000000 in
theorem g_Codes_takePlain_8 {Rg : Nat → Prop} {O : zO} {q : Unit × zM} : ∀ (n : Nat) (l0 : Nat) (l1 : Nat) (l2 : Int32) (l3 : Int32) (l4 : Int32) (M : zM), zCl Rg M → Rg l0 → Rg l1 → f_Codes_takePlain_8 O n l0 l1 l2 l3 l4 M = some q → zFr Rg M q.2 := by
  intro n
  induction n with
  | zero => intro l0 l1 l2 l3 l4 M hcl hR_l0 hR_l1 h; rw [f_Codes_takePlain_8] at h; cases h
  | succ n ih =>
    intro l0 l1 l2 l3 l4 M hcl hR_l0 hR_l1 h
    rw [f_Codes_takePlain_8] at h
    have g := zFr.rf hcl
    by_cases c5 : l3 ≤ l4
    · have h := zift h c5
      obtain rfl := z_res h
      exact g
    · have h := ziff h c5
      obtain ⟨h1, h⟩ := zif h
      obtain ⟨q2, c3, h⟩ := zbd h
      have g := g.tr (G_Row_at g.cl hR_l1 c3)
      by_cases c4 : (l4 - l4 / (2 : Int32) * (2 : Int32)) = 0
      · have h := zift h c4
        exact g.tr (g_Codes_takePlain_46 ih n l0 l1 l2 l3 l4 l0 (q2.1 >>> ((4 : Int32) &&& 31)) q2.2 g.cl hR_l0 hR_l1 hR_l0 h)
      · have h := ziff h c4
        exact g.tr (g_Codes_takePlain_46 ih n l0 l1 l2 l3 l4 l0 (q2.1 &&& (15 : Int32)) q2.2 g.cl hR_l0 hR_l1 hR_l0 h)
set_option maxRecDepth 100000 in
set_option maxHeartbeats 4000000 in
theorem g_Codes_takePlain_0 {Rg : Nat → Prop} {O : zO} {q : Unit × zM} : ∀ (n : Nat) (l0 : Nat) (l1 : Nat) (l2 : Int32) (l3 : Int32) (M : zM), zCl Rg M → Rg l0 → Rg l1 → f_Codes_takePlain_0 O n l0 l1 l2 l3 M = some q → zFr Rg M q.2 := by
  intro n l0 l1 l2 l3 M hcl hR_l0 hR_l1 h
  rw [f_Codes_takePlain_0] at h
  have g := zFr.rf hcl
  obtain ⟨h1, h⟩ := zif h
  obtain ⟨M2, e3, h⟩ := zlet_ex h
  have g := g.i hR_l0 e3
  have h4 := k_i e3 h1
  exact g.tr (g_Codes_takePlain_8 n l0 l1 l2 l3 (0 : Int32) M2 g.cl hR_l0 hR_l1 h)
theorem G_Codes_takePlain {Rg : Nat → Prop} {O : zO} {n : Nat} {l0 : Nat} {l1 : Nat} {l2 : Int32} {l3 : Int32} {M : zM} {q : Unit × zM} (hcl : zCl Rg M) (hR_l0 : Rg l0) (hR_l1 : Rg l1) (h : F_Codes_takePlain O n l0 l1 l2 l3 M = some q) : zFr Rg M q.2 := g_Codes_takePlain_0 n l0 l1 l2 l3 M hcl hR_l0 hR_l1 h

set_option maxRecDepth 100000 in
set_option maxHeartbeats 4000000 in
theorem g_Share_nextBits_20 {Rg : Nat → Prop} {O : zO} {q : Int32 × zM} : ∀ (n : Nat) (M : zM), zCl Rg M → f_Share_nextBits_20 O n M = some q → zFr Rg M q.2 := by
  intro n M hcl h
  rw [f_Share_nextBits_20] at h
  have g := zFr.rf hcl
  obtain rfl := z_res h
  exact g
set_option maxRecDepth 100000 in
set_option maxHeartbeats 4000000 in
theorem g_Share_nextBits_70 {Rg : Nat → Prop} {O : zO} {q : Int32 × zM} {k26 : Nat → Int32 → Int32 → Int32 → zM → Option (Int32 × zM)} (hk26 : ∀ (l0 : Nat) (l1 : Int32) (l2 : Int32) (l3 : Int32) (M : zM), zCl Rg M → Rg l0 → k26 l0 l1 l2 l3 M = some q → zFr Rg M q.2) : ∀ (n : Nat) (l0 : Nat) (l1 : Int32) (l2 : Int32) (l3 : Int32) (s0 : Int32) (M : zM), zCl Rg M → Rg l0 → f_Share_nextBits_70 O k26 n l0 l1 l2 l3 s0 M = some q → zFr Rg M q.2 := by
  intro n l0 l1 l2 l3 s0 M hcl hR_l0 h
  rw [f_Share_nextBits_70] at h
  have g := zFr.rf hcl
  obtain ⟨h1, h⟩ := zif h
  obtain ⟨v2, e3, h⟩ := zlet_ex h
  obtain ⟨M4, e5, h⟩ := zlet_ex h
  have g := g.i hR_l0 e5
  have h6 := k_i e5 h1
  obtain ⟨v7, e8, h⟩ := zlet_ex h
  exact g.tr (hk26 l0 l1 v2 v7 M4 g.cl hR_l0 h)
set_option maxRecDepth 100000 in
set_option maxHeartbeats 4000000 in
theorem g_Share_nextBits_69 {Rg : Nat → Prop} {O : zO} {q : Int32 × zM} {k26 : Nat → Int32 → Int32 → Int32 → zM → Option (Int32 × zM)} (hk26 : ∀ (l0 : Nat) (l1 : Int32) (l2 : Int32) (l3 : Int32) (M : zM), zCl Rg M → Rg l0 → k26 l0 l1 l2 l3 M = some q → zFr Rg M q.2) : ∀ (n : Nat) (l0 : Nat) (l1 : Int32) (l2 : Int32) (l3 : Int32) (M : zM), zCl Rg M → Rg l0 → f_Share_nextBits_69 O k26 n l0 l1 l2 l3 M = some q → zFr Rg M q.2 := by
  intro n l0 l1 l2 l3 M hcl hR_l0 h
  rw [f_Share_nextBits_69] at h
  have g := zFr.rf hcl
  exact g.tr (g_Share_nextBits_70 hk26 n l0 l1 l2 l3 (0 : Int32) M g.cl hR_l0 h)
set_option maxRecDepth 100000 in
set_option maxHeartbeats 4000000 in
theorem g_Share_nextBits_26 {Rg : Nat → Prop} {O : zO} {q : Int32 × zM} : ∀ (n : Nat) (l0 : Nat) (l1 : Int32) (l2 : Int32) (l3 : Int32) (M : zM), zCl Rg M → Rg l0 → f_Share_nextBits_26 O n l0 l1 l2 l3 M = some q → zFr Rg M q.2 := by
  intro n
  induction n with
  | zero => intro l0 l1 l2 l3 M hcl hR_l0 h; rw [f_Share_nextBits_26] at h; cases h
  | succ n ih =>
    intro l0 l1 l2 l3 M hcl hR_l0 h
    rw [f_Share_nextBits_26] at h
    have g := zFr.rf hcl
    by_cases c9 : l1 ≤ l3
    · have h := zift h c9
      obtain rfl := z_res h
      exact g
    · have h := ziff h c9
      obtain ⟨h1, h⟩ := zif h
      obtain ⟨v2, e3, h⟩ := zlet_ex h
      by_cases c8 : v2 < 0
      · have h := zift h c8
        exact g.tr (g_Share_nextBits_69 ih n l0 l1 l2 l3 M g.cl hR_l0 h)
      · have h := ziff h c8
        have r2 : Rg (z_p M l0 8) := g.cl _ _ hR_l0
        obtain ⟨h4, h⟩ := zif h
        by_cases c7 : (z_i M (z_p M l0 8) 1) ≤ v2
        · have h := zift h c7
          exact g.tr (g_Share_nextBits_69 ih n l0 l1 l2 l3 M g.cl hR_l0 h)
        · have h := ziff h c7
          have r3 : Rg (z_p M l0 8) := g.cl _ _ hR_l0
          have r4 : Rg (z_p M (z_p M l0 8) 0) := g.cl _ _ r3
          obtain ⟨h5, h⟩ := zif h
          obtain ⟨h6, h⟩ := zif h
          exact g.tr (g_Share_nextBits_70 ih n l0 l1 l2 l3 (z_i M (z_p M (z_p M l0 8) 0) v2.toNatClampNeg) M g.cl hR_l0 h)
set_option maxRecDepth 100000 in
set_option maxHeartbeats 4000000 in
theorem g_Share_nextBits_0 {Rg : Nat → Prop} {O : zO} {q : Int32 × zM} : ∀ (n : Nat) (l0 : Nat) (l1 : Int32) (M : zM), zCl Rg M → Rg l0 → f_Share_nextBits_0 O n l0 l1 M = some q → zFr Rg M q.2 := by
  intro n l0 l1 M hcl hR_l0 h
  rw [f_Share_nextBits_0] at h
  have g := zFr.rf hcl
  obtain ⟨h1, h⟩ := zif h
  have r1 : Rg (z_p M l0 8) := g.cl _ _ hR_l0
  by_cases c3 : (z_p M l0 8) = 0
  · have h := zift h c3
    exact g.tr (g_Share_nextBits_20 n M g.cl h)
  · have h := ziff h c3
    by_cases c2 : l1 ≤ ((z_i M l0 10) - (z_i M l0 9))
    · have h := zift h c2
      exact g.tr (g_Share_nextBits_26 n l0 l1 (0 : Int32) (0 : Int32) M g.cl hR_l0 h)
    · have h := ziff h c2
      exact g.tr (g_Share_nextBits_20 n M g.cl h)
theorem G_Share_nextBits {Rg : Nat → Prop} {O : zO} {n : Nat} {l0 : Nat} {l1 : Int32} {M : zM} {q : Int32 × zM} (hcl : zCl Rg M) (hR_l0 : Rg l0) (h : F_Share_nextBits O n l0 l1 M = some q) : zFr Rg M q.2 := g_Share_nextBits_0 n l0 l1 M hcl hR_l0 h

set_option maxRecDepth 100000 in
set_option maxHeartbeats 4000000 in
theorem g_JArr_fill_II_5 {Rg : Nat → Prop} {O : zO} {q : Unit × zM} : ∀ (n : Nat) (l0 : Nat) (l1 : Int32) (l2 : Int32) (l3 : Int32) (M : zM), zCl Rg M → Rg l0 → f_JArr_fill_II_5 O n l0 l1 l2 l3 M = some q → zFr Rg M q.2 := by
  intro n
  induction n with
  | zero => intro l0 l1 l2 l3 M hcl hR_l0 h; rw [f_JArr_fill_II_5] at h; cases h
  | succ n ih =>
    intro l0 l1 l2 l3 M hcl hR_l0 h
    rw [f_JArr_fill_II_5] at h
    have g := zFr.rf hcl
    by_cases c8 : l3 ≤ l2
    · have h := zift h c8
      obtain rfl := z_res h
      exact g
    · have h := ziff h c8
      obtain ⟨h1, h⟩ := zif h
      obtain ⟨h2, h⟩ := zif h
      obtain ⟨M3, e4, h⟩ := zlet_ex h
      have g := g.i hR_l0 e4
      have h5 := k_i e4 h1
      obtain ⟨v6, e7, h⟩ := zlet_ex h
      exact g.tr (ih l0 l1 v6 l3 M3 g.cl hR_l0 h)
set_option maxRecDepth 100000 in
set_option maxHeartbeats 4000000 in
theorem g_JArr_fill_II_0 {Rg : Nat → Prop} {O : zO} {q : Unit × zM} : ∀ (n : Nat) (l0 : Nat) (l1 : Int32) (M : zM), zCl Rg M → Rg l0 → f_JArr_fill_II_0 O n l0 l1 M = some q → zFr Rg M q.2 := by
  intro n l0 l1 M hcl hR_l0 h
  rw [f_JArr_fill_II_0] at h
  have g := zFr.rf hcl
  obtain ⟨h1, h⟩ := zif h
  obtain ⟨v2, e3, h⟩ := zlet_ex h
  exact g.tr (g_JArr_fill_II_5 n l0 l1 (0 : Int32) v2 M g.cl hR_l0 h)
theorem G_JArr_fill_II {Rg : Nat → Prop} {O : zO} {n : Nat} {l0 : Nat} {l1 : Int32} {M : zM} {q : Unit × zM} (hcl : zCl Rg M) (hR_l0 : Rg l0) (h : F_JArr_fill_II O n l0 l1 M = some q) : zFr Rg M q.2 := g_JArr_fill_II_0 n l0 l1 M hcl hR_l0 h

set_option maxRecDepth 100000 in
set_option maxHeartbeats 4000000 in
theorem g_Share_nextPoints_56 {Rg : Nat → Prop} {O : zO} {q : Int32 × zM} : ∀ (n : Nat) (s0 : Int32) (M : zM), zCl Rg M → f_Share_nextPoints_56 O n s0 M = some q → zFr Rg M q.2 := by
  intro n s0 M hcl h
  rw [f_Share_nextPoints_56] at h
  have g := zFr.rf hcl
  obtain rfl := z_res h
  exact g
set_option maxRecDepth 100000 in
set_option maxHeartbeats 4000000 in
theorem g_Share_nextPoints_42 {Rg : Nat → Prop} {O : zO} {q : Int32 × zM} : ∀ (n : Nat) (l5 : Int32) (M : zM), zCl Rg M → f_Share_nextPoints_42 O n l5 M = some q → zFr Rg M q.2 := by
  intro n l5 M hcl h
  rw [f_Share_nextPoints_42] at h
  have g := zFr.rf hcl
  by_cases c1 : 0 ≤ l5
  · have h := zift h c1
    exact g.tr (g_Share_nextPoints_56 n (l5 - (1 : Int32)) M g.cl h)
  · have h := ziff h c1
    exact g.tr (g_Share_nextPoints_56 n (-2 : Int32) M g.cl h)
set_option maxRecDepth 100000 in
set_option maxHeartbeats 4000000 in
theorem g_Share_nextPoints_101 {Rg : Nat → Prop} {O : zO} {q : Int32 × zM} : ∀ (n : Nat) (s0 : Int32) (M : zM), zCl Rg M → f_Share_nextPoints_101 O n s0 M = some q → zFr Rg M q.2 := by
  intro n s0 M hcl h
  rw [f_Share_nextPoints_101] at h
  have g := zFr.rf hcl
  obtain rfl := z_res h
  exact g
set_option maxRecDepth 100000 in
set_option maxHeartbeats 4000000 in
theorem g_Share_nextPoints_0 {Rg : Nat → Prop} {O : zO} {q : Int32 × zM} : ∀ (n : Nat) (l0 : Nat) (l1 : Int32) (M : zM), zCl Rg M → Rg l0 → f_Share_nextPoints_0 O n l0 l1 M = some q → zFr Rg M q.2 := by
  intro n l0 l1 M hcl hR_l0 h
  rw [f_Share_nextPoints_0] at h
  have g := zFr.rf hcl
  obtain ⟨q1, c2, h⟩ := zbd h
  have g := g.tr (G_JInt_numberOfLeadingZeros g.cl c2)
  obtain ⟨v3, e4, h⟩ := zlet_ex h
  obtain ⟨v5, e6, h⟩ := zlet_ex h
  obtain ⟨v7, e8, h⟩ := zlet_ex h
  obtain ⟨h9, h⟩ := zif h
  obtain ⟨q10, c11, h⟩ := zbd h
  have g := g.tr (G_Share_nextBits g.cl hR_l0 c11)
  by_cases c20 : q10.1 < 0
  · have h := zift h c20
    exact g.tr (g_Share_nextPoints_42 n q10.1 q10.2 g.cl h)
  · have h := ziff h c20
    by_cases c19 : v7 ≤ q10.1
    · have h := zift h c19
      obtain ⟨h12, h⟩ := zif h
      obtain ⟨q13, c14, h⟩ := zbd h
      have g := g.tr (G_Share_nextBits g.cl hR_l0 c14)
      by_cases c18 : 0 ≤ q13.1
      · have h := zift h c18
        obtain ⟨v15, e16, h⟩ := zlet_ex h
        by_cases c17 : v15 < v5
        · have h := zift h c17
          exact g.tr (g_Share_nextPoints_101 n (v15 - (1 : Int32)) q13.2 g.cl h)
        · have h := ziff h c17
          exact g.tr (g_Share_nextPoints_101 n ((v15 - v7) - (1 : Int32)) q13.2 g.cl h)
      · have h := ziff h c18
        obtain rfl := z_res h
        exact g
    · have h := ziff h c19
      exact g.tr (g_Share_nextPoints_42 n q10.1 q10.2 g.cl h)
theorem G_Share_nextPoints {Rg : Nat → Prop} {O : zO} {n : Nat} {l0 : Nat} {l1 : Int32} {M : zM} {q : Int32 × zM} (hcl : zCl Rg M) (hR_l0 : Rg l0) (h : F_Share_nextPoints O n l0 l1 M = some q) : zFr Rg M q.2 := g_Share_nextPoints_0 n l0 l1 M hcl hR_l0 h

set_option maxRecDepth 100000 in
set_option maxHeartbeats 4000000 in
theorem g_Share_nextNones_4 {Rg : Nat → Prop} {O : zO} {q : Int32 × zM} : ∀ (n : Nat) (l0 : Nat) (l1 : Int32) (l2 : Int32) (M : zM), zCl Rg M → Rg l0 → f_Share_nextNones_4 O n l0 l1 l2 M = some q → zFr Rg M q.2 := by
  intro n
  induction n with
  | zero => intro l0 l1 l2 M hcl hR_l0 h; rw [f_Share_nextNones_4] at h; cases h
  | succ n ih =>
    intro l0 l1 l2 M hcl hR_l0 h
    rw [f_Share_nextNones_4] at h
    have g := zFr.rf hcl
    obtain ⟨h1, h⟩ := zif h
    by_cases c11 : (z_i M l0 1) < l2
    · have h := zift h c11
      obtain rfl := z_res h
      exact g
    · have h := ziff h c11
      obtain ⟨q2, c3, h⟩ := zbd h
      have g := g.tr (G_Share_nextBits g.cl hR_l0 c3)
      by_cases c10 : 0 ≤ q2.1
      · have h := zift h c10
        obtain ⟨v4, e5, h⟩ := zlet_ex h
        by_cases c8 : (3 : Int32) ≤ q2.1
        · have h := zift h c8
          obtain ⟨v6, e7, h⟩ := zlet_ex h
          exact g.tr (ih l0 v4 v6 q2.2 g.cl hR_l0 h)
        · have h := ziff h c8
          obtain rfl := z_res h
          exact g
      · have h := ziff h c10
        obtain ⟨h9, h⟩ := zif h
        obtain rfl := z_res h
        exact g
set_option maxRecDepth 100000 in
set_option maxHeartbeats 4000000 in
theorem g_Share_nextNones_0 {Rg : Nat → Prop} {O : zO} {q : Int32 × zM} : ∀ (n : Nat) (l0 : Nat) (M : zM), zCl Rg M → Rg l0 → f_Share_nextNones_0 O n l0 M = some q → zFr Rg M q.2 := by
  intro n l0 M hcl hR_l0 h
  rw [f_Share_nextNones_0] at h
  have g := zFr.rf hcl
  exact g.tr (g_Share_nextNones_4 n l0 (0 : Int32) (0 : Int32) M g.cl hR_l0 h)
theorem G_Share_nextNones {Rg : Nat → Prop} {O : zO} {n : Nat} {l0 : Nat} {M : zM} {q : Int32 × zM} (hcl : zCl Rg M) (hR_l0 : Rg l0) (h : F_Share_nextNones O n l0 M = some q) : zFr Rg M q.2 := g_Share_nextNones_0 n l0 M hcl hR_l0 h

set_option maxRecDepth 100000 in
set_option maxHeartbeats 4000000 in
theorem g_Share_tell_44 {Rg : Nat → Prop} {O : zO} {q : Int32 × zM} : ∀ (n : Nat) (M : zM), zCl Rg M → f_Share_tell_44 O n M = some q → zFr Rg M q.2 := by
  intro n M hcl h
  rw [f_Share_tell_44] at h
  have g := zFr.rf hcl
  obtain rfl := z_res h
  exact g
set_option maxRecDepth 100000 in
set_option maxHeartbeats 4000000 in
theorem g_Share_tell_148 {Rg : Nat → Prop} {O : zO} {q : Int32 × zM} : ∀ (n : Nat) (l0 : Nat) (l5 : Int32) (M : zM), zCl Rg M → Rg l0 → f_Share_tell_148 O n l0 l5 M = some q → zFr Rg M q.2 := by
  intro n l0 l5 M hcl hR_l0 h
  rw [f_Share_tell_148] at h
  have g := zFr.rf hcl
  by_cases c5 : l5 ≤ 0
  · have h := zift h c5
    obtain ⟨h1, h⟩ := zif h
    obtain ⟨q2, c3, h⟩ := zbd h
    have g := g.tr (G_Share_lay g.cl hR_l0 c3)
    obtain ⟨h4, h⟩ := zif h
    obtain rfl := z_res h
    exact g
  · have h := ziff h c5
    obtain rfl := z_res h
    exact g
set_option maxRecDepth 100000 in
set_option maxHeartbeats 4000000 in
theorem g_Share_tell_142 {Rg : Nat → Prop} {O : zO} {q : Int32 × zM} {k73 : Nat → Int32 → Int32 → zM → Option (Int32 × zM)} (hk73 : ∀ (l0 : Nat) (l5 : Int32) (l6 : Int32) (M : zM), zCl Rg M → Rg l0 → k73 l0 l5 l6 M = some q → zFr Rg M q.2) : ∀ (n : Nat) (l0 : Nat) (l5 : Int32) (l6 : Int32) (M : zM), zCl Rg M → Rg l0 → f_Share_tell_142 O k73 n l0 l5 l6 M = some q → zFr Rg M q.2 := by
  intro n l0 l5 l6 M hcl hR_l0 h
  rw [f_Share_tell_142] at h
  have g := zFr.rf hcl
  obtain ⟨v1, e2, h⟩ := zlet_ex h
  exact g.tr (hk73 l0 l5 v1 M g.cl hR_l0 h)
set_option maxRecDepth 100000 in
set_option maxHeartbeats 4000000 in
theorem g_Share_tell_125 {Rg : Nat → Prop} {O : zO} {q : Int32 × zM} {k73 : Nat → Int32 → Int32 → zM → Option (Int32 × zM)} (hk73 : ∀ (l0 : Nat) (l5 : Int32) (l6 : Int32) (M : zM), zCl Rg M → Rg l0 → k73 l0 l5 l6 M = some q → zFr Rg M q.2) : ∀ (n : Nat) (l0 : Nat) (l6 : Int32) (l7 : Int32) (s0 : Int32) (s1 : Int32) (M : zM), zCl Rg M → Rg l0 → f_Share_tell_125 O k73 n l0 l6 l7 s0 s1 M = some q → zFr Rg M q.2 := by
  intro n l0 l6 l7 s0 s1 M hcl hR_l0 h
  rw [f_Share_tell_125] at h
  have g := zFr.rf hcl
  obtain ⟨v1, e2, h⟩ := zlet_ex h
  by_cases c8 : l7 = 0
  · have h := zift h c8
    obtain ⟨h3, h⟩ := zif h
    obtain ⟨q4, c5, h⟩ := zbd h
    have g := g.tr (G_Share_nextNones g.cl hR_l0 c5)
    obtain ⟨v6, e7, h⟩ := zlet_ex h
    exact g.tr (g_Share_tell_142 hk73 n l0 v1 v6 q4.2 g.cl hR_l0 h)
  · have h := ziff h c8
    exact g.tr (g_Share_tell_142 hk73 n l0 v1 l6 M g.cl hR_l0 h)
set_option maxRecDepth 100000 in
set_option maxHeartbeats 4000000 in
theorem g_Share_tell_73 {Rg : Nat → Prop} {O : zO} {q : Int32 × zM} : ∀ (n : Nat) (l0 : Nat) (l5 : Int32) (l6 : Int32) (M : zM), zCl Rg M → Rg l0 → f_Share_tell_73 O n l0 l5 l6 M = some q → zFr Rg M q.2 := by
  intro n
  induction n with
  | zero => intro l0 l5 l6 M hcl hR_l0 h; rw [f_Share_tell_73] at h; cases h
  | succ n ih =>
    intro l0 l5 l6 M hcl hR_l0 h
    rw [f_Share_tell_73] at h
    have g := zFr.rf hcl
    obtain ⟨h1, h⟩ := zif h
    by_cases c14 : (z_i M l0 1) < l6
    · have h := zift h c14
      exact g.tr (g_Share_tell_148 n l0 l5 M g.cl hR_l0 h)
    · have h := ziff h c14
      by_cases c13 : l5 ≤ 0
      · have h := zift h c13
        exact g.tr (g_Share_tell_148 n l0 l5 M g.cl hR_l0 h)
      · have h := ziff h c13
        obtain ⟨q2, c3, h⟩ := zbd h
        have g := g.tr (G_Share_nextPoints g.cl hR_l0 c3)
        by_cases c12 : (-1 : Int32) ≤ q2.1
        · have h := zift h c12
          obtain ⟨h4, h⟩ := zif h
          have r2 : Rg (z_p q2.2 l0 2) := g.cl _ _ hR_l0
          obtain ⟨h5, h⟩ := zif h
          obtain ⟨h6, h⟩ := zif h
          obtain ⟨M7, e8, h⟩ := zlet_ex h
          have g := g.i r2 e8
          have h9 := k_i e8 h4
          have h10 := k_i e8 h5
          by_cases c11 : 0 ≤ q2.1
          · have h := zift h c11
            exact g.tr (g_Share_tell_125 ih n l0 l6 q2.1 l5 q2.1 M7 g.cl hR_l0 h)
          · have h := ziff h c11
            exact g.tr (g_Share_tell_125 ih n l0 l6 q2.1 l5 (1 : Int32) M7 g.cl hR_l0 h)
        · have h := ziff h c12
          obtain rfl := z_res h
          exact g
set_option maxRecDepth 100000 in
set_option maxHeartbeats 4000000 in
theorem g_Share_tell_0 {Rg : Nat → Prop} {O : zO} {q : Int32 × zM} : ∀ (n : Nat) (l0 : Nat) (l1 : Nat) (l2 : Int32) (l3 : Int32) (M : zM), zCl Rg M → Rg l0 → Rg l1 → f_Share_tell_0 O n l0 l1 l2 l3 M = some q → zFr Rg M q.2 := by
  intro n l0 l1 l2 l3 M hcl hR_l0 hR_l1 h
  rw [f_Share_tell_0] at h
  have g := zFr.rf hcl
  obtain ⟨h1, h⟩ := zif h
  obtain ⟨M2, e3, h⟩ := zlet_ex h
  have g := g.p hR_l0 hR_l1 (by rw [h1]; rfl) e3
  have h4 := k_p e3 h1
  obtain ⟨M5, e6, h⟩ := zlet_ex h
  have g := g.i hR_l0 e6
  have h7 := k_i e6 h4
  obtain ⟨M8, e9, h⟩ := zlet_ex h
  have g := g.i hR_l0 e9
  have h10 := k_i e9 h7
  obtain ⟨q11, c12, h⟩ := zbd h
  have g := g.tr (G_Share_nextBits g.cl hR_l0 c12)
  by_cases c23 : q11.1 < 0
  · have h := zift h c23
    exact g.tr (g_Share_tell_44 n q11.2 g.cl h)
  · have h := ziff h c23
    obtain ⟨h13, h⟩ := zif h
    by_cases c22 : (q11.1 + (5 : Int32)) ≤ (z_i q11.2 l0 0)
    · have h := zift h c22
      obtain ⟨M14, e15, h⟩ := zlet_ex h
      have g := g.i hR_l0 e15
      have h16 := k_i e15 h13
      have r1 : Rg (z_p M14 l0 2) := g.cl _ _ hR_l0
      obtain ⟨q17, c18, h⟩ := zbd h
      have g := g.tr (G_JArr_fill_II g.cl r1 c18)
      obtain ⟨h19, h⟩ := zif h
      obtain ⟨v20, e21, h⟩ := zlet_ex h
      exact g.tr (g_Share_tell_73 n l0 v20 (0 : Int32) q17.2 g.cl hR_l0 h)
    · have h := ziff h c22
      exact g.tr (g_Share_tell_44 n q11.2 g.cl h)
theorem G_Share_tell {Rg : Nat → Prop} {O : zO} {n : Nat} {l0 : Nat} {l1 : Nat} {l2 : Int32} {l3 : Int32} {M : zM} {q : Int32 × zM} (hcl : zCl Rg M) (hR_l0 : Rg l0) (hR_l1 : Rg l1) (h : F_Share_tell O n l0 l1 l2 l3 M = some q) : zFr Rg M q.2 := g_Share_tell_0 n l0 l1 l2 l3 M hcl hR_l0 hR_l1 h

set_option maxRecDepth 100000 in
set_option maxHeartbeats 4000000 in
theorem g_Stream_open_35 {Rg : Nat → Prop} {O : zO} {q : Int32 × zM} : ∀ (n : Nat) (M : zM), zCl Rg M → f_Stream_open_35 O n M = some q → zFr Rg M q.2 := by
  intro n M hcl h
  rw [f_Stream_open_35] at h
  have g := zFr.rf hcl
  obtain rfl := z_res h
  exact g
set_option maxRecDepth 100000 in
set_option maxHeartbeats 4000000 in
theorem g_Stream_open_0 {Rg : Nat → Prop} {O : zO} {q : Int32 × zM} : ∀ (n : Nat) (l0 : Nat) (l1 : Nat) (l2 : Int32) (l3 : Int32) (M : zM), zCl Rg M → Rg l0 → Rg l1 → f_Stream_open_0 O n l0 l1 l2 l3 M = some q → zFr Rg M q.2 := by
  intro n l0 l1 l2 l3 M hcl hR_l0 hR_l1 h
  rw [f_Stream_open_0] at h
  have g := zFr.rf hcl
  obtain ⟨h1, h⟩ := zif h
  have r1 : Rg (z_p M l1 0) := g.cl _ _ hR_l1
  obtain ⟨h2, h⟩ := zif h
  obtain ⟨M3, e4, h⟩ := zlet_ex h
  have g := g.p hR_l0 r1 (by rw [h2]; rfl) e4
  have h5 := k_p e4 h1
  have h6 := k_p e4 h2
  obtain ⟨M7, e8, h⟩ := zlet_ex h
  have g := g.i hR_l0 e8
  have h9 := k_i e8 h5
  have h10 := k_i e8 h6
  obtain ⟨M11, e12, h⟩ := zlet_ex h
  have g := g.i hR_l0 e12
  have h13 := k_i e12 h9
  have h14 := k_i e12 h10
  by_cases c26 : l2 < 0
  · have h := zift h c26
    exact g.tr (g_Stream_open_35 n M11 g.cl h)
  · have h := ziff h c26
    by_cases c25 : l3 ≤ l2
    · have h := zift h c25
      exact g.tr (g_Stream_open_35 n M11 g.cl h)
    · have h := ziff h c25
      by_cases c24 : l3 ≤ (z_i M11 l1 1)
      · have h := zift h c24
        obtain ⟨q15, c16, h⟩ := zbd h
        have g := g.tr (G_Row_at g.cl hR_l1 c16)
        by_cases c23 : q15.1 = 0
        · have h := zift h c23
          obtain rfl := z_res h
          exact g
        · have h := ziff h c23
          obtain ⟨q17, c18, h⟩ := zbd h
          have g := g.tr (G_JInt_numberOfLeadingZeros g.cl c18)
          obtain ⟨h19, h⟩ := zif h
          obtain ⟨M20, e21, h⟩ := zlet_ex h
          have g := g.i hR_l0 e21
          have h22 := k_i e21 h19
          obtain rfl := z_res h
          exact g
      · have h := ziff h c24
        exact g.tr (g_Stream_open_35 n M11 g.cl h)
theorem G_Stream_open {Rg : Nat → Prop} {O : zO} {n : Nat} {l0 : Nat} {l1 : Nat} {l2 : Int32} {l3 : Int32} {M : zM} {q : Int32 × zM} (hcl : zCl Rg M) (hR_l0 : Rg l0) (hR_l1 : Rg l1) (h : F_Stream_open O n l0 l1 l2 l3 M = some q) : zFr Rg M q.2 := g_Stream_open_0 n l0 l1 l2 l3 M hcl hR_l0 hR_l1 h

set_option maxRecDepth 100000 in
set_option maxHeartbeats 4000000 in
theorem g_Stream_take_30 {Rg : Nat → Prop} {O : zO} {q : Int64 × zM} : ∀ (n : Nat) (M : zM), zCl Rg M → f_Stream_take_30 O n M = some q → zFr Rg M q.2 := by
  intro n M hcl h
  rw [f_Stream_take_30] at h
  have g := zFr.rf hcl
  obtain rfl := z_res h
  exact g
set_option maxRecDepth 100000 in
set_option maxHeartbeats 4000000 in
theorem g_Stream_take_158 {Rg : Nat → Prop} {O : zO} {q : Int64 × zM} : ∀ (n : Nat) (s0 : Int64) (M : zM), zCl Rg M → f_Stream_take_158 O n s0 M = some q → zFr Rg M q.2 := by
  intro n s0 M hcl h
  rw [f_Stream_take_158] at h
  have g := zFr.rf hcl
  obtain rfl := z_res h
  exact g
set_option maxRecDepth 100000 in
set_option maxHeartbeats 4000000 in
theorem g_Stream_take_111 {Rg : Nat → Prop} {O : zO} {q : Int64 × zM} {k63 : Nat → Int32 → Int32 → Int64 → Int32 → zM → Option (Int64 × zM)} (hk63 : ∀ (l0 : Nat) (l2 : Int32) (l3 : Int32) (l4 : Int64) (l6 : Int32) (M : zM), zCl Rg M → Rg l0 → k63 l0 l2 l3 l4 l6 M = some q → zFr Rg M q.2) : ∀ (n : Nat) (l0 : Nat) (l2 : Int32) (l3 : Int32) (l6 : Int32) (s0 : Int64) (s1 : Int32) (M : zM), zCl Rg M → Rg l0 → f_Stream_take_111 O k63 n l0 l2 l3 l6 s0 s1 M = some q → zFr Rg M q.2 := by
  intro n l0 l2 l3 l6 s0 s1 M hcl hR_l0 h
  rw [f_Stream_take_111] at h
  have g := zFr.rf hcl
  obtain ⟨v1, e2, h⟩ := zlet_ex h
  obtain ⟨v3, e4, h⟩ := zlet_ex h
  exact g.tr (hk63 l0 l2 l3 v1 v3 M g.cl hR_l0 h)
set_option maxRecDepth 100000 in
set_option maxHeartbeats 4000000 in
theorem g_Stream_take_110 {Rg : Nat → Prop} {O : zO} {q : Int64 × zM} {k63 : Nat → Int32 → Int32 → Int64 → Int32 → zM → Option (Int64 × zM)} (hk63 : ∀ (l0 : Nat) (l2 : Int32) (l3 : Int32) (l4 : Int64) (l6 : Int32) (M : zM), zCl Rg M → Rg l0 → k63 l0 l2 l3 l4 l6 M = some q → zFr Rg M q.2) : ∀ (n : Nat) (l0 : Nat) (l2 : Int32) (l3 : Int32) (l6 : Int32) (s0 : Int64) (M : zM), zCl Rg M → Rg l0 → f_Stream_take_110 O k63 n l0 l2 l3 l6 s0 M = some q → zFr Rg M q.2 := by
  intro n l0 l2 l3 l6 s0 M hcl hR_l0 h
  rw [f_Stream_take_110] at h
  have g := zFr.rf hcl
  exact g.tr (g_Stream_take_111 hk63 n l0 l2 l3 l6 s0 (0 : Int32) M g.cl hR_l0 h)
set_option maxRecDepth 100000 in
set_option maxHeartbeats 4000000 in
theorem g_Stream_take_63 {Rg : Nat → Prop} {O : zO} {q : Int64 × zM} : ∀ (n : Nat) (l0 : Nat) (l2 : Int32) (l3 : Int32) (l4 : Int64) (l6 : Int32) (M : zM), zCl Rg M → Rg l0 → f_Stream_take_63 O n l0 l2 l3 l4 l6 M = some q → zFr Rg M q.2 := by
  intro n
  induction n with
  | zero => intro l0 l2 l3 l4 l6 M hcl hR_l0 h; rw [f_Stream_take_63] at h; cases h
  | succ n ih =>
    intro l0 l2 l3 l4 l6 M hcl hR_l0 h
    rw [f_Stream_take_63] at h
    have g := zFr.rf hcl
    obtain ⟨h1, h⟩ := zif h
    by_cases c9 : l6 < ((z_i M l0 1) + (l3 >>> ((3 : Int32) &&& 31)))
    · have h := zift h c9
      obtain ⟨v2, e3, h⟩ := zlet_ex h
      by_cases c4 : 0 ≤ (z_i M l0 2)
      · have h := zift h c4
        exact g.tr (g_Stream_take_158 n v2 M g.cl h)
      · have h := ziff h c4
        exact g.tr (g_Stream_take_158 n (v2 <<< ((-(z_i M l0 2)).toInt64 &&& 63)) M g.cl h)
    · have h := ziff h c9
      by_cases c8 : l6 < 0
      · have h := zift h c8
        exact g.tr (g_Stream_take_110 ih n l0 l2 l3 l6 (l4 <<< ((8 : Int32).toInt64 &&& 63)) M g.cl hR_l0 h)
      · have h := ziff h c8
        have r2 : Rg (z_p M l0 0) := g.cl _ _ hR_l0
        obtain ⟨h5, h⟩ := zif h
        by_cases c7 : (Int32.ofNat (z_n M (z_p M l0 0))) ≤ l6
        · have h := zift h c7
          exact g.tr (g_Stream_take_110 ih n l0 l2 l3 l6 (l4 <<< ((8 : Int32).toInt64 &&& 63)) M g.cl hR_l0 h)
        · have h := ziff h c7
          have r3 : Rg (z_p M l0 0) := g.cl _ _ hR_l0
          obtain ⟨h6, h⟩ := zif h
          exact g.tr (g_Stream_take_111 ih n l0 l2 l3 l6 (l4 <<< ((8 : Int32).toInt64 &&& 63)) ((z_i M (z_p M l0 0) l6.toNatClampNeg) &&& (255 : Int32)) M g.cl hR_l0 h)
set_option maxRecDepth 100000 in
set_option maxHeartbeats 4000000 in
theorem g_Stream_take_47 {Rg : Nat → Prop} {O : zO} {q : Int64 × zM} : ∀ (n : Nat) (l0 : Nat) (l2 : Int32) (s0 : Int32) (M : zM), zCl Rg M → Rg l0 → f_Stream_take_47 O n l0 l2 s0 M = some q → zFr Rg M q.2 := by
  intro n l0 l2 s0 M hcl hR_l0 h
  rw [f_Stream_take_47] at h
  have g := zFr.rf hcl
  obtain ⟨h1, h⟩ := zif h
  obtain ⟨v2, e3, h⟩ := zlet_ex h
  exact g.tr (g_Stream_take_63 n l0 l2 s0 (0 : Int64) v2 M g.cl hR_l0 h)
set_option maxRecDepth 100000 in
set_option maxHeartbeats 4000000 in
theorem g_Stream_take_0 {Rg : Nat → Prop} {O : zO} {q : Int64 × zM} : ∀ (n : Nat) (l0 : Nat) (l1 : Int32) (M : zM), zCl Rg M → Rg l0 → f_Stream_take_0 O n l0 l1 M = some q → zFr Rg M q.2 := by
  intro n l0 l1 M hcl hR_l0 h
  rw [f_Stream_take_0] at h
  have g := zFr.rf hcl
  obtain ⟨h1, h⟩ := zif h
  obtain ⟨v2, e3, h⟩ := zlet_ex h
  obtain ⟨M4, e5, h⟩ := zlet_ex h
  have g := g.i hR_l0 e5
  have h6 := k_i e5 h1
  by_cases c10 : v2 ≤ 0
  · have h := zift h c10
    exact g.tr (g_Stream_take_30 n M4 g.cl h)
  · have h := ziff h c10
    by_cases c9 : l1 ≤ 0
    · have h := zift h c9
      exact g.tr (g_Stream_take_30 n M4 g.cl h)
    · have h := ziff h c9
      have r1 : Rg (z_p M4 l0 0) := g.cl _ _ hR_l0
      by_cases c8 : (z_p M4 l0 0) = 0
      · have h := zift h c8
        exact g.tr (g_Stream_take_30 n M4 g.cl h)
      · have h := ziff h c8
        by_cases c7 : (z_i M4 l0 2) ≤ 0
        · have h := zift h c7
          exact g.tr (g_Stream_take_47 n l0 v2 (0 : Int32) M4 g.cl hR_l0 h)
        · have h := ziff h c7
          exact g.tr (g_Stream_take_47 n l0 v2 (z_i M4 l0 2) M4 g.cl hR_l0 h)
theorem G_Stream_take {Rg : Nat → Prop} {O : zO} {n : Nat} {l0 : Nat} {l1 : Int32} {M : zM} {q : Int64 × zM} (hcl : zCl Rg M) (hR_l0 : Rg l0) (h : F_Stream_take O n l0 l1 M = some q) : zFr Rg M q.2 := g_Stream_take_0 n l0 l1 M hcl hR_l0 h

set_option maxRecDepth 100000 in
set_option maxHeartbeats 4000000 in
theorem g_Share_symbolOf_23 {Rg : Nat → Prop} {O : zO} {q : Int32 × zM} : ∀ (n : Nat) (s0 : Int32) (M : zM), zCl Rg M → f_Share_symbolOf_23 O n s0 M = some q → zFr Rg M q.2 := by
  intro n s0 M hcl h
  rw [f_Share_symbolOf_23] at h
  have g := zFr.rf hcl
  obtain rfl := z_res h
  exact g
set_option maxRecDepth 100000 in
set_option maxHeartbeats 4000000 in
theorem g_Share_symbolOf_22 {Rg : Nat → Prop} {O : zO} {q : Int32 × zM} : ∀ (n : Nat) (M : zM), zCl Rg M → f_Share_symbolOf_22 O n M = some q → zFr Rg M q.2 := by
  intro n M hcl h
  rw [f_Share_symbolOf_22] at h
  have g := zFr.rf hcl
  exact g.tr (g_Share_symbolOf_23 n (0 : Int32) M g.cl h)
set_option maxRecDepth 100000 in
set_option maxHeartbeats 4000000 in
theorem g_Share_symbolOf_0 {Rg : Nat → Prop} {O : zO} {q : Int32 × zM} : ∀ (n : Nat) (l0 : Nat) (l1 : Int32) (M : zM), zCl Rg M → Rg l0 → f_Share_symbolOf_0 O n l0 l1 M = some q → zFr Rg M q.2 := by
  intro n l0 l1 M hcl hR_l0 h
  rw [f_Share_symbolOf_0] at h
  have g := zFr.rf hcl
  by_cases c5 : l1 < 0
  · have h := zift h c5
    exact g.tr (g_Share_symbolOf_22 n M g.cl h)
  · have h := ziff h c5
    obtain ⟨h1, h⟩ := zif h
    have r1 : Rg (z_p M l0 4) := g.cl _ _ hR_l0
    obtain ⟨h2, h⟩ := zif h
    by_cases c4 : (Int32.ofNat (z_n M (z_p M l0 4))) ≤ l1
    · have h := zift h c4
      exact g.tr (g_Share_symbolOf_22 n M g.cl h)
    · have h := ziff h c4
      have r2 : Rg (z_p M l0 4) := g.cl _ _ hR_l0
      obtain ⟨h3, h⟩ := zif h
      exact g.tr (g_Share_symbolOf_23 n (z_i M (z_p M l0 4) l1.toNatClampNeg) M g.cl h)
theorem G_Share_symbolOf {Rg : Nat → Prop} {O : zO} {n : Nat} {l0 : Nat} {l1 : Int32} {M : zM} {q : Int32 × zM} (hcl : zCl Rg M) (hR_l0 : Rg l0) (h : F_Share_symbolOf O n l0 l1 M = some q) : zFr Rg M q.2 := g_Share_symbolOf_0 n l0 l1 M hcl hR_l0 h

set_option maxRecDepth 100000 in
set_option maxHeartbeats 4000000 in
theorem g_Share_bitsOf_23 {Rg : Nat → Prop} {O : zO} {q : Int32 × zM} : ∀ (n : Nat) (s0 : Int32) (M : zM), zCl Rg M → f_Share_bitsOf_23 O n s0 M = some q → zFr Rg M q.2 := by
  intro n s0 M hcl h
  rw [f_Share_bitsOf_23] at h
  have g := zFr.rf hcl
  obtain rfl := z_res h
  exact g
set_option maxRecDepth 100000 in
set_option maxHeartbeats 4000000 in
theorem g_Share_bitsOf_22 {Rg : Nat → Prop} {O : zO} {q : Int32 × zM} : ∀ (n : Nat) (M : zM), zCl Rg M → f_Share_bitsOf_22 O n M = some q → zFr Rg M q.2 := by
  intro n M hcl h
  rw [f_Share_bitsOf_22] at h
  have g := zFr.rf hcl
  exact g.tr (g_Share_bitsOf_23 n (0 : Int32) M g.cl h)
set_option maxRecDepth 100000 in
set_option maxHeartbeats 4000000 in
theorem g_Share_bitsOf_0 {Rg : Nat → Prop} {O : zO} {q : Int32 × zM} : ∀ (n : Nat) (l0 : Nat) (l1 : Int32) (M : zM), zCl Rg M → Rg l0 → f_Share_bitsOf_0 O n l0 l1 M = some q → zFr Rg M q.2 := by
  intro n l0 l1 M hcl hR_l0 h
  rw [f_Share_bitsOf_0] at h
  have g := zFr.rf hcl
  by_cases c5 : l1 < 0
  · have h := zift h c5
    exact g.tr (g_Share_bitsOf_22 n M g.cl h)
  · have h := ziff h c5
    obtain ⟨h1, h⟩ := zif h
    have r1 : Rg (z_p M l0 5) := g.cl _ _ hR_l0
    obtain ⟨h2, h⟩ := zif h
    by_cases c4 : (Int32.ofNat (z_n M (z_p M l0 5))) ≤ l1
    · have h := zift h c4
      exact g.tr (g_Share_bitsOf_22 n M g.cl h)
    · have h := ziff h c4
      have r2 : Rg (z_p M l0 5) := g.cl _ _ hR_l0
      obtain ⟨h3, h⟩ := zif h
      exact g.tr (g_Share_bitsOf_23 n (z_i M (z_p M l0 5) l1.toNatClampNeg) M g.cl h)
theorem G_Share_bitsOf {Rg : Nat → Prop} {O : zO} {n : Nat} {l0 : Nat} {l1 : Int32} {M : zM} {q : Int32 × zM} (hcl : zCl Rg M) (hR_l0 : Rg l0) (h : F_Share_bitsOf O n l0 l1 M = some q) : zFr Rg M q.2 := g_Share_bitsOf_0 n l0 l1 M hcl hR_l0 h

set_option maxRecDepth 100000 in
set_option maxHeartbeats 4000000 in
theorem g_Share_baseOf_23 {Rg : Nat → Prop} {O : zO} {q : Int32 × zM} : ∀ (n : Nat) (s0 : Int32) (M : zM), zCl Rg M → f_Share_baseOf_23 O n s0 M = some q → zFr Rg M q.2 := by
  intro n s0 M hcl h
  rw [f_Share_baseOf_23] at h
  have g := zFr.rf hcl
  obtain rfl := z_res h
  exact g
set_option maxRecDepth 100000 in
set_option maxHeartbeats 4000000 in
theorem g_Share_baseOf_22 {Rg : Nat → Prop} {O : zO} {q : Int32 × zM} : ∀ (n : Nat) (M : zM), zCl Rg M → f_Share_baseOf_22 O n M = some q → zFr Rg M q.2 := by
  intro n M hcl h
  rw [f_Share_baseOf_22] at h
  have g := zFr.rf hcl
  exact g.tr (g_Share_baseOf_23 n (0 : Int32) M g.cl h)
set_option maxRecDepth 100000 in
set_option maxHeartbeats 4000000 in
theorem g_Share_baseOf_0 {Rg : Nat → Prop} {O : zO} {q : Int32 × zM} : ∀ (n : Nat) (l0 : Nat) (l1 : Int32) (M : zM), zCl Rg M → Rg l0 → f_Share_baseOf_0 O n l0 l1 M = some q → zFr Rg M q.2 := by
  intro n l0 l1 M hcl hR_l0 h
  rw [f_Share_baseOf_0] at h
  have g := zFr.rf hcl
  by_cases c5 : l1 < 0
  · have h := zift h c5
    exact g.tr (g_Share_baseOf_22 n M g.cl h)
  · have h := ziff h c5
    obtain ⟨h1, h⟩ := zif h
    have r1 : Rg (z_p M l0 6) := g.cl _ _ hR_l0
    obtain ⟨h2, h⟩ := zif h
    by_cases c4 : (Int32.ofNat (z_n M (z_p M l0 6))) ≤ l1
    · have h := zift h c4
      exact g.tr (g_Share_baseOf_22 n M g.cl h)
    · have h := ziff h c4
      have r2 : Rg (z_p M l0 6) := g.cl _ _ hR_l0
      obtain ⟨h3, h⟩ := zif h
      exact g.tr (g_Share_baseOf_23 n (z_i M (z_p M l0 6) l1.toNatClampNeg) M g.cl h)
theorem G_Share_baseOf {Rg : Nat → Prop} {O : zO} {n : Nat} {l0 : Nat} {l1 : Int32} {M : zM} {q : Int32 × zM} (hcl : zCl Rg M) (hR_l0 : Rg l0) (h : F_Share_baseOf O n l0 l1 M = some q) : zFr Rg M q.2 := g_Share_baseOf_0 n l0 l1 M hcl hR_l0 h

set_option maxRecDepth 100000 in
set_option maxHeartbeats 4000000 in
theorem g_Codes_takeCoded_60 {Rg : Nat → Prop} {O : zO} {q : Int32 × zM} : ∀ (n : Nat) (l0 : Nat) (l1 : Int32) (l2 : Int32) (l3 : Int32) (M : zM), zCl Rg M → Rg l0 → f_Codes_takeCoded_60 O n l0 l1 l2 l3 M = some q → zFr Rg M q.2 := by
  intro n
  induction n with
  | zero => intro l0 l1 l2 l3 M hcl hR_l0 h; rw [f_Codes_takeCoded_60] at h; cases h
  | succ n ih =>
    intro l0 l1 l2 l3 M hcl hR_l0 h
    rw [f_Codes_takeCoded_60] at h
    have g := zFr.rf hcl
    by_cases c37 : (255 : Int32) ≤ l3
    · have h := zift h c37
      obtain rfl := z_res h
      exact g
    · have h := ziff h c37
      obtain ⟨h1, h⟩ := zif h
      have r7 : Rg (z_p M l0 3) := g.cl _ _ hR_l0
      obtain ⟨h2, h⟩ := zif h
      obtain ⟨q3, c4, h⟩ := zbd h
      have g := g.tr (G_Share_symbolOf g.cl r7 c4)
      obtain ⟨h5, h⟩ := zif h
      obtain ⟨q6, c7, h⟩ := zbd h
      have g := g.tr (G_Codes_addWeight g.cl hR_l0 c7)
      obtain ⟨h8, h⟩ := zif h
      have r8 : Rg (z_p q6.2 l0 4) := g.cl _ _ hR_l0
      obtain ⟨h9, h⟩ := zif h
      have r9 : Rg (z_p q6.2 l0 3) := g.cl _ _ hR_l0
      obtain ⟨h10, h⟩ := zif h
      obtain ⟨q11, c12, h⟩ := zbd h
      have g := g.tr (G_Share_bitsOf g.cl r9 c12)
      by_cases c36 : q11.1 ≤ (z_i q6.2 (z_p q6.2 l0 4) 2)
      · have h := zift h c36
        obtain ⟨h13, h⟩ := zif h
        have r10 : Rg (z_p q11.2 l0 3) := g.cl _ _ hR_l0
        obtain ⟨h14, h⟩ := zif h
        obtain ⟨q15, c16, h⟩ := zbd h
        have g := g.tr (G_Share_baseOf g.cl r10 c16)
        obtain ⟨h17, h⟩ := zif h
        have r11 : Rg (z_p q15.2 l0 4) := g.cl _ _ hR_l0
        have r12 : Rg (z_p q15.2 l0 3) := g.cl _ _ hR_l0
        obtain ⟨h18, h⟩ := zif h
        obtain ⟨q19, c20, h⟩ := zbd h
        have g := g.tr (G_Share_bitsOf g.cl r12 c20)
        obtain ⟨h21, h⟩ := zif h
        obtain ⟨q22, c23, h⟩ := zbd h
        have g := g.tr (G_Stream_take g.cl r11 c23)
        obtain ⟨v24, e25, h⟩ := zlet_ex h
        obtain ⟨v26, e27, h⟩ := zlet_ex h
        exact g.tr (ih l0 l2 v24 v26 q22.2 g.cl hR_l0 h)
      · have h := ziff h c36
        obtain ⟨h28, h⟩ := zif h
        have r13 : Rg (z_p q11.2 l0 3) := g.cl _ _ hR_l0
        obtain ⟨h29, h⟩ := zif h
        obtain ⟨q30, c31, h⟩ := zbd h
        have g := g.tr (G_Share_symbolOf g.cl r13 c31)
        obtain ⟨h32, h⟩ := zif h
        obtain ⟨q33, c34, h⟩ := zbd h
        have g := g.tr (G_Codes_addWeight g.cl hR_l0 c34)
        obtain ⟨h35, h⟩ := zif h
        obtain rfl := z_res h
        exact g
set_option maxRecDepth 100000 in
set_option maxHeartbeats 4000000 in
theorem g_Codes_takeCoded_0 {Rg : Nat → Prop} {O : zO} {q : Int32 × zM} : ∀ (n : Nat) (l0 : Nat) (M : zM), zCl Rg M → Rg l0 → f_Codes_takeCoded_0 O n l0 M = some q → zFr Rg M q.2 := by
  intro n l0 M hcl hR_l0 h
  rw [f_Codes_takeCoded_0] at h
  have g := zFr.rf hcl
  obtain ⟨h1, h⟩ := zif h
  have r1 : Rg (z_p M l0 4) := g.cl _ _ hR_l0
  obtain ⟨h2, h⟩ := zif h
  have r2 : Rg (z_p M l0 3) := g.cl _ _ hR_l0
  obtain ⟨h3, h⟩ := zif h
  by_cases c22 : ((2 : Int32) * (z_i M (z_p M l0 3) 7)) ≤ (z_i M (z_p M l0 4) 2)
  · have h := zift h c22
    obtain ⟨M4, e5, h⟩ := zlet_ex h
    have g := g.i hR_l0 e5
    have h6 := k_i e5 h1
    have h7 := k_i e5 h2
    have h8 := k_i e5 h3
    have r3 : Rg (z_p M4 l0 4) := g.cl _ _ hR_l0
    have r4 : Rg (z_p M4 l0 3) := g.cl _ _ hR_l0
    obtain ⟨h9, h⟩ := zif h
    obtain ⟨h10, h⟩ := zif h
    obtain ⟨q11, c12, h⟩ := zbd h
    have g := g.tr (G_Stream_take g.cl r3 c12)
    obtain ⟨v13, e14, h⟩ := zlet_ex h
    obtain ⟨h15, h⟩ := zif h
    have r5 : Rg (z_p q11.2 l0 4) := g.cl _ _ hR_l0
    have r6 : Rg (z_p q11.2 l0 3) := g.cl _ _ hR_l0
    obtain ⟨h16, h⟩ := zif h
    obtain ⟨h17, h⟩ := zif h
    obtain ⟨q18, c19, h⟩ := zbd h
    have g := g.tr (G_Stream_take g.cl r5 c19)
    obtain ⟨v20, e21, h⟩ := zlet_ex h
    exact g.tr (g_Codes_takeCoded_60 n l0 v13 v20 (0 : Int32) q18.2 g.cl hR_l0 h)
  · have h := ziff h c22
    obtain rfl := z_res h
    exact g
theorem G_Codes_takeCoded {Rg : Nat → Prop} {O : zO} {n : Nat} {l0 : Nat} {M : zM} {q : Int32 × zM} (hcl : zCl Rg M) (hR_l0 : Rg l0) (h : F_Codes_takeCoded O n l0 M = some q) : zFr Rg M q.2 := g_Codes_takeCoded_0 n l0 M hcl hR_l0 h

set_option maxRecDepth 100000 in
set_option maxHeartbeats 4000000 in
theorem g_Codes_complete_88 {Rg : Nat → Prop} {O : zO} {q : Int32 × zM} : ∀ (n : Nat) (M : zM), zCl Rg M → f_Codes_complete_88 O n M = some q → zFr Rg M q.2 := by
  intro n M hcl h
  rw [f_Codes_complete_88] at h
  have g := zFr.rf hcl
  obtain rfl := z_res h
  exact g
set_option maxRecDepth 100000 in
set_option maxHeartbeats 4000000 in
theorem g_Codes_complete_166 {Rg : Nat → Prop} {O : zO} {q : Int32 × zM} : ∀ (n : Nat) (s0 : Int32) (M : zM), zCl Rg M → f_Codes_complete_166 O n s0 M = some q → zFr Rg M q.2 := by
  intro n s0 M hcl h
  rw [f_Codes_complete_166] at h
  have g := zFr.rf hcl
  obtain ⟨h1, h⟩ := zif h
  obtain rfl := z_res h
  exact g
set_option maxRecDepth 100000 in
set_option maxHeartbeats 4000000 in
theorem g_Codes_complete_144 {Rg : Nat → Prop} {O : zO} {q : Int32 × zM} : ∀ (n : Nat) (l0 : Nat) (s0 : Int32) (s1 : Int32) (M : zM), zCl Rg M → Rg l0 → f_Codes_complete_144 O n l0 s0 s1 M = some q → zFr Rg M q.2 := by
  intro n l0 s0 s1 M hcl hR_l0 h
  rw [f_Codes_complete_144] at h
  have g := zFr.rf hcl
  obtain ⟨v1, e2, h⟩ := zlet_ex h
  obtain ⟨h3, h⟩ := zif h
  obtain ⟨M4, e5, h⟩ := zlet_ex h
  have g := g.i hR_l0 e5
  have h6 := k_i e5 h3
  by_cases c7 : v1 < (2 : Int32)
  · have h := zift h c7
    exact g.tr (g_Codes_complete_166 n (0 : Int32) M4 g.cl h)
  · have h := ziff h c7
    exact g.tr (g_Codes_complete_166 n (1 : Int32) M4 g.cl h)
set_option maxRecDepth 100000 in
set_option maxHeartbeats 4000000 in
theorem g_Codes_complete_56 {Rg : Nat → Prop} {O : zO} {q : Int32 × zM} {k6 : Nat → Int32 → Int32 → Int32 → zM → Option (Int32 × zM)} (hk6 : ∀ (l0 : Nat) (l1 : Int32) (l2 : Int32) (l3 : Int32) (M : zM), zCl Rg M → Rg l0 → k6 l0 l1 l2 l3 M = some q → zFr Rg M q.2) : ∀ (n : Nat) (l0 : Nat) (l1 : Int32) (l3 : Int32) (s0 : Int32) (s1 : Int32) (M : zM), zCl Rg M → Rg l0 → f_Codes_complete_56 O k6 n l0 l1 l3 s0 s1 M = some q → zFr Rg M q.2 := by
  intro n l0 l1 l3 s0 s1 M hcl hR_l0 h
  rw [f_Codes_complete_56] at h
  have g := zFr.rf hcl
  obtain ⟨v1, e2, h⟩ := zlet_ex h
  obtain ⟨v3, e4, h⟩ := zlet_ex h
  exact g.tr (hk6 l0 l1 v1 v3 M g.cl hR_l0 h)
set_option maxRecDepth 100000 in
set_option maxHeartbeats 4000000 in
theorem g_Codes_complete_38 {Rg : Nat → Prop} {O : zO} {q : Int32 × zM} {k6 : Nat → Int32 → Int32 → Int32 → zM → Option (Int32 × zM)} (hk6 : ∀ (l0 : Nat) (l1 : Int32) (l2 : Int32) (l3 : Int32) (M : zM), zCl Rg M → Rg l0 → k6 l0 l1 l2 l3 M = some q → zFr Rg M q.2) : ∀ (n : Nat) (l0 : Nat) (l2 : Int32) (l3 : Int32) (s0 : Int32) (s1 : Int32) (M : zM), zCl Rg M → Rg l0 → f_Codes_complete_38 O k6 n l0 l2 l3 s0 s1 M = some q → zFr Rg M q.2 := by
  intro n l0 l2 l3 s0 s1 M hcl hR_l0 h
  rw [f_Codes_complete_38] at h
  have g := zFr.rf hcl
  obtain ⟨v1, e2, h⟩ := zlet_ex h
  obtain ⟨h3, h⟩ := zif h
  have r5 : Rg (z_p M l0 0) := g.cl _ _ hR_l0
  obtain ⟨h4, h⟩ := zif h
  obtain ⟨h5, h⟩ := zif h
  by_cases c6 : (z_i M (z_p M l0 0) l3.toNatClampNeg) = (1 : Int32)
  · have h := zift h c6
    exact g.tr (g_Codes_complete_56 hk6 n l0 v1 l3 l2 (1 : Int32) M g.cl hR_l0 h)
  · have h := ziff h c6
    exact g.tr (g_Codes_complete_56 hk6 n l0 v1 l3 l2 (0 : Int32) M g.cl hR_l0 h)
set_option maxRecDepth 100000 in
set_option maxHeartbeats 4000000 in
theorem g_Codes_complete_6 {Rg : Nat → Prop} {O : zO} {q : Int32 × zM} : ∀ (n : Nat) (l0 : Nat) (l1 : Int32) (l2 : Int32) (l3 : Int32) (M : zM), zCl Rg M → Rg l0 → f_Codes_complete_6 O n l0 l1 l2 l3 M = some q → zFr Rg M q.2 := by
  intro n
  induction n with
  | zero => intro l0 l1 l2 l3 M hcl hR_l0 h; rw [f_Codes_complete_6] at h; cases h
  | succ n ih =>
    intro l0 l1 l2 l3 M hcl hR_l0 h
    rw [f_Codes_complete_6] at h
    have g := zFr.rf hcl
    obtain ⟨h1, h⟩ := zif h
    by_cases c28 : (z_i M l0 6) ≤ l3
    · have h := zift h c28
      obtain ⟨q2, c3, h⟩ := zbd h
      have g := g.tr (G_JInt_numberOfLeadingZeros g.cl c3)
      obtain ⟨h4, h⟩ := zif h
      obtain ⟨M5, e6, h⟩ := zlet_ex h
      have g := g.i hR_l0 e6
      have h7 := k_i e6 h4
      by_cases c23 : l1 = 0
      · have h := zift h c23
        exact g.tr (g_Codes_complete_88 n M5 g.cl h)
      · have h := ziff h c23
        by_cases c22 : (z_i M5 l0 5) ≤ (11 : Int32)
        · have h := zift h c22
          obtain ⟨v8, e9, h⟩ := zlet_ex h
          by_cases c21 : (v8 &&& (v8 - (1 : Int32))) = 0
          · have h := zift h c21
            have r1 : Rg (z_p M5 l0 0) := g.cl _ _ hR_l0
            obtain ⟨q10, c11, h⟩ := zbd h
            have g := g.tr (G_JInt_numberOfLeadingZeros g.cl c11)
            obtain ⟨h12, h⟩ := zif h
            obtain ⟨h13, h⟩ := zif h
            obtain ⟨M14, e15, h⟩ := zlet_ex h
            have g := g.i r1 e15
            have h16 := k_i e15 h12
            obtain ⟨h17, h⟩ := zif h
            have r2 : Rg (z_p M14 l0 0) := g.cl _ _ hR_l0
            obtain ⟨h18, h⟩ := zif h
            obtain ⟨h19, h⟩ := zif h
            by_cases c20 : (z_i M14 (z_p M14 l0 0) (z_i M14 l0 6).toNatClampNeg) = (1 : Int32)
            · have h := zift h c20
              exact g.tr (g_Codes_complete_144 n l0 l2 (1 : Int32) M14 g.cl hR_l0 h)
            · have h := ziff h c20
              exact g.tr (g_Codes_complete_144 n l0 l2 (0 : Int32) M14 g.cl hR_l0 h)
          · have h := ziff h c21
            obtain rfl := z_res h
            exact g
        · have h := ziff h c22
          exact g.tr (g_Codes_complete_88 n M5 g.cl h)
    · have h := ziff h c28
      have r3 : Rg (z_p M l0 0) := g.cl _ _ hR_l0
      obtain ⟨h24, h⟩ := zif h
      obtain ⟨h25, h⟩ := zif h
      by_cases c27 : (z_i M (z_p M l0 0) l3.toNatClampNeg) ≤ 0
      · have h := zift h c27
        exact g.tr (g_Codes_complete_38 ih n l0 l2 l3 l1 (0 : Int32) M g.cl hR_l0 h)
      · have h := ziff h c27
        have r4 : Rg (z_p M l0 0) := g.cl _ _ hR_l0
        obtain ⟨h26, h⟩ := zif h
        exact g.tr (g_Codes_complete_38 ih n l0 l2 l3 l1 ((1 : Int32) <<< (((z_i M (z_p M l0 0) l3.toNatClampNeg) - (1 : Int32)) &&& 31)) M g.cl hR_l0 h)
set_option maxRecDepth 100000 in
set_option maxHeartbeats 4000000 in
theorem g_Codes_complete_0 {Rg : Nat → Prop} {O : zO} {q : Int32 × zM} : ∀ (n : Nat) (l0 : Nat) (M : zM), zCl Rg M → Rg l0 → f_Codes_complete_0 O n l0 M = some q → zFr Rg M q.2 := by
  intro n l0 M hcl hR_l0 h
  rw [f_Codes_complete_0] at h
  have g := zFr.rf hcl
  exact g.tr (g_Codes_complete_6 n l0 (0 : Int32) (0 : Int32) (0 : Int32) M g.cl hR_l0 h)
theorem G_Codes_complete {Rg : Nat → Prop} {O : zO} {n : Nat} {l0 : Nat} {M : zM} {q : Int32 × zM} (hcl : zCl Rg M) (hR_l0 : Rg l0) (h : F_Codes_complete O n l0 M = some q) : zFr Rg M q.2 := g_Codes_complete_0 n l0 M hcl hR_l0 h

set_option maxRecDepth 100000 in
set_option maxHeartbeats 4000000 in
theorem g_JArr_rangeCheck_0 {Rg : Nat → Prop} {O : zO} {q : Unit × zM} : ∀ (n : Nat) (l0 : Int32) (l1 : Int32) (l2 : Int32) (M : zM), zCl Rg M → f_JArr_rangeCheck_0 O n l0 l1 l2 M = some q → zFr Rg M q.2 := by
  intro n l0 l1 l2 M hcl h
  rw [f_JArr_rangeCheck_0] at h
  have g := zFr.rf hcl
  by_cases c3 : l1 ≤ l2
  · have h := zift h c3
    by_cases c2 : 0 ≤ l1
    · have h := zift h c2
      by_cases c1 : l2 ≤ l0
      · have h := zift h c1
        obtain rfl := z_res h
        exact g
      · have h := ziff h c1
        cases h
    · have h := ziff h c2
      cases h
  · have h := ziff h c3
    cases h
theorem G_JArr_rangeCheck {Rg : Nat → Prop} {O : zO} {n : Nat} {l0 : Int32} {l1 : Int32} {l2 : Int32} {M : zM} {q : Unit × zM} (hcl : zCl Rg M) (h : F_JArr_rangeCheck O n l0 l1 l2 M = some q) : zFr Rg M q.2 := g_JArr_rangeCheck_0 n l0 l1 l2 M hcl h

set_option maxRecDepth 100000 in
set_option maxHeartbeats 4000000 in
theorem g_JArr_fill_IIII_10 {Rg : Nat → Prop} {O : zO} {q : Unit × zM} : ∀ (n : Nat) (l0 : Nat) (l2 : Int32) (l3 : Int32) (l4 : Int32) (M : zM), zCl Rg M → Rg l0 → f_JArr_fill_IIII_10 O n l0 l2 l3 l4 M = some q → zFr Rg M q.2 := by
  intro n
  induction n with
  | zero => intro l0 l2 l3 l4 M hcl hR_l0 h; rw [f_JArr_fill_IIII_10] at h; cases h
  | succ n ih =>
    intro l0 l2 l3 l4 M hcl hR_l0 h
    rw [f_JArr_fill_IIII_10] at h
    have g := zFr.rf hcl
    by_cases c8 : l2 ≤ l4
    · have h := zift h c8
      obtain rfl := z_res h
      exact g
    · have h := ziff h c8
      obtain ⟨h1, h⟩ := zif h
      obtain ⟨h2, h⟩ := zif h
      obtain ⟨M3, e4, h⟩ := zlet_ex h
      have g := g.i hR_l0 e4
      have h5 := k_i e4 h1
      obtain ⟨v6, e7, h⟩ := zlet_ex h
      exact g.tr (ih l0 l2 l3 v6 M3 g.cl hR_l0 h)
set_option maxRecDepth 100000 in
set_option maxHeartbeats 4000000 in
theorem g_JArr_fill_IIII_0 {Rg : Nat → Prop} {O : zO} {q : Unit × zM} : ∀ (n : Nat) (l0 : Nat) (l1 : Int32) (l2 : Int32) (l3 : Int32) (M : zM), zCl Rg M → Rg l0 → f_JArr_fill_IIII_0 O n l0 l1 l2 l3 M = some q → zFr Rg M q.2 := by
  intro n l0 l1 l2 l3 M hcl hR_l0 h
  rw [f_JArr_fill_IIII_0] at h
  have g := zFr.rf hcl
  obtain ⟨h1, h⟩ := zif h
  obtain ⟨q2, c3, h⟩ := zbd h
  have g := g.tr (G_JArr_rangeCheck g.cl c3)
  exact g.tr (g_JArr_fill_IIII_10 n l0 l2 l3 l1 q2.2 g.cl hR_l0 h)
theorem G_JArr_fill_IIII {Rg : Nat → Prop} {O : zO} {n : Nat} {l0 : Nat} {l1 : Int32} {l2 : Int32} {l3 : Int32} {M : zM} {q : Unit × zM} (hcl : zCl Rg M) (hR_l0 : Rg l0) (h : F_JArr_fill_IIII O n l0 l1 l2 l3 M = some q) : zFr Rg M q.2 := g_JArr_fill_IIII_0 n l0 l1 l2 l3 M hcl hR_l0 h

set_option maxRecDepth 100000 in
set_option maxHeartbeats 4000000 in
theorem g_Codes_lay_69 {Rg : Nat → Prop} {O : zO} {q : Unit × zM} {k4 : Nat → Int32 → Int32 → zM → Option (Unit × zM)} (hk4 : ∀ (l0 : Nat) (l1 : Int32) (l2 : Int32) (M : zM), zCl Rg M → Rg l0 → k4 l0 l1 l2 M = some q → zFr Rg M q.2) {k14 : Nat → Int32 → Int32 → Int32 → zM → Option (Unit × zM)} (hk14 : ∀ (l0 : Nat) (l1 : Int32) (l2 : Int32) (l3 : Int32) (M : zM), zCl Rg M → Rg l0 → k14 l0 l1 l2 l3 M = some q → zFr Rg M q.2) : ∀ (n : Nat) (l0 : Nat) (l1 : Int32) (l2 : Int32) (l3 : Int32) (M : zM), zCl Rg M → Rg l0 → f_Codes_lay_69 O k4 k14 n l0 l1 l2 l3 M = some q → zFr Rg M q.2 := by
  intro n l0 l1 l2 l3 M hcl hR_l0 h
  rw [f_Codes_lay_69] at h
  have g := zFr.rf hcl
  obtain ⟨v1, e2, h⟩ := zlet_ex h
  exact g.tr (hk14 l0 l1 l2 v1 M g.cl hR_l0 h)
set_option maxRecDepth 100000 in
set_option maxHeartbeats 4000000 in
theorem g_Codes_lay_14 {Rg : Nat → Prop} {O : zO} {q : Unit × zM} {k4 : Nat → Int32 → Int32 → zM → Option (Unit × zM)} (hk4 : ∀ (l0 : Nat) (l1 : Int32) (l2 : Int32) (M : zM), zCl Rg M → Rg l0 → k4 l0 l1 l2 M = some q → zFr Rg M q.2) : ∀ (n : Nat) (l0 : Nat) (l1 : Int32) (l2 : Int32) (l3 : Int32) (M : zM), zCl Rg M → Rg l0 → f_Codes_lay_14 O k4 n l0 l1 l2 l3 M = some q → zFr Rg M q.2 := by
  intro n
  induction n with
  | zero => intro l0 l1 l2 l3 M hcl hR_l0 h; rw [f_Codes_lay_14] at h; cases h
  | succ n ih =>
    intro l0 l1 l2 l3 M hcl hR_l0 h
    rw [f_Codes_lay_14] at h
    have g := zFr.rf hcl
    obtain ⟨h1, h⟩ := zif h
    by_cases c18 : (z_i M l0 6) ≤ l3
    · have h := zift h c18
      obtain ⟨v2, e3, h⟩ := zlet_ex h
      exact g.tr (hk4 l0 l1 v2 M g.cl hR_l0 h)
    · have h := ziff h c18
      have r1 : Rg (z_p M l0 0) := g.cl _ _ hR_l0
      obtain ⟨h4, h⟩ := zif h
      obtain ⟨h5, h⟩ := zif h
      by_cases c17 : (z_i M (z_p M l0 0) l3.toNatClampNeg) = l2
      · have h := zift h c17
        obtain ⟨v6, e7, h⟩ := zlet_ex h
        have r2 : Rg (z_p M l0 2) := g.cl _ _ hR_l0
        obtain ⟨q8, c9, h⟩ := zbd h
        have g := g.tr (G_JArr_fill_IIII g.cl r2 c9)
        obtain ⟨h10, h⟩ := zif h
        have r3 : Rg (z_p q8.2 l0 1) := g.cl _ _ hR_l0
        obtain ⟨h11, h⟩ := zif h
        obtain ⟨h12, h⟩ := zif h
        obtain ⟨M13, e14, h⟩ := zlet_ex h
        have g := g.i r3 e14
        have h15 := k_i e14 h10
        have h16 := k_i e14 h11
        exact g.tr (g_Codes_lay_69 hk4 ih n l0 v6 l2 l3 M13 g.cl hR_l0 h)
      · have h := ziff h c17
        exact g.tr (g_Codes_lay_69 hk4 ih n l0 l1 l2 l3 M g.cl hR_l0 h)
set_option maxRecDepth 100000 in
set_option maxHeartbeats 4000000 in
theorem g_Codes_lay_4 {Rg : Nat → Prop} {O : zO} {q : Unit × zM} : ∀ (n : Nat) (l0 : Nat) (l1 : Int32) (l2 : Int32) (M : zM), zCl Rg M → Rg l0 → f_Codes_lay_4 O n l0 l1 l2 M = some q → zFr Rg M q.2 := by
  intro n
  induction n with
  | zero => intro l0 l1 l2 M hcl hR_l0 h; rw [f_Codes_lay_4] at h; cases h
  | succ n ih =>
    intro l0 l1 l2 M hcl hR_l0 h
    rw [f_Codes_lay_4] at h
    have g := zFr.rf hcl
    obtain ⟨h1, h⟩ := zif h
    by_cases c2 : (z_i M l0 5) < l2
    · have h := zift h c2
      obtain rfl := z_res h
      exact g
    · have h := ziff h c2
      exact g.tr (g_Codes_lay_14 ih n l0 l1 l2 (0 : Int32) M g.cl hR_l0 h)
set_option maxRecDepth 100000 in
set_option maxHeartbeats 4000000 in
theorem g_Codes_lay_0 {Rg : Nat → Prop} {O : zO} {q : Unit × zM} : ∀ (n : Nat) (l0 : Nat) (M : zM), zCl Rg M → Rg l0 → f_Codes_lay_0 O n l0 M = some q → zFr Rg M q.2 := by
  intro n l0 M hcl hR_l0 h
  rw [f_Codes_lay_0] at h
  have g := zFr.rf hcl
  exact g.tr (g_Codes_lay_4 n l0 (0 : Int32) (1 : Int32) M g.cl hR_l0 h)
theorem G_Codes_lay {Rg : Nat → Prop} {O : zO} {n : Nat} {l0 : Nat} {M : zM} {q : Unit × zM} (hcl : zCl Rg M) (hR_l0 : Rg l0) (h : F_Codes_lay O n l0 M = some q) : zFr Rg M q.2 := g_Codes_lay_0 n l0 M hcl hR_l0 h

set_option maxRecDepth 100000 in
set_option maxHeartbeats 4000000 in
theorem g_Codes_tell_113 {Rg : Nat → Prop} {O : zO} {q : Int32 × zM} : ∀ (n : Nat) (M : zM), zCl Rg M → f_Codes_tell_113 O n M = some q → zFr Rg M q.2 := by
  intro n M hcl h
  rw [f_Codes_tell_113] at h
  have g := zFr.rf hcl
  obtain rfl := z_res h
  exact g
set_option maxRecDepth 100000 in
set_option maxHeartbeats 4000000 in
theorem g_Codes_tell_115 {Rg : Nat → Prop} {O : zO} {q : Int32 × zM} : ∀ (n : Nat) (l0 : Nat) (l5 : Int32) (M : zM), zCl Rg M → Rg l0 → f_Codes_tell_115 O n l0 l5 M = some q → zFr Rg M q.2 := by
  intro n l0 l5 M hcl hR_l0 h
  rw [f_Codes_tell_115] at h
  have g := zFr.rf hcl
  obtain ⟨h1, h⟩ := zif h
  obtain ⟨q2, c3, h⟩ := zbd h
  have g := g.tr (G_Codes_complete g.cl hR_l0 c3)
  by_cases c7 : q2.1 = 0
  · have h := zift h c7
    obtain rfl := z_res h
    exact g
  · have h := ziff h c7
    obtain ⟨h4, h⟩ := zif h
    obtain ⟨q5, c6, h⟩ := zbd h
    have g := g.tr (G_Codes_lay g.cl hR_l0 c6)
    obtain rfl := z_res h
    exact g
set_option maxRecDepth 100000 in
set_option maxHeartbeats 4000000 in
theorem g_Codes_tell_36 {Rg : Nat → Prop} {O : zO} {q : Int32 × zM} : ∀ (n : Nat) (l0 : Nat) (l1 : Nat) (l2 : Int32) (l3 : Int32) (l4 : Int32) (s0 : Int32) (s1 : Int32) (M : zM), zCl Rg M → Rg l0 → Rg l1 → f_Codes_tell_36 O n l0 l1 l2 l3 l4 s0 s1 M = some q → zFr Rg M q.2 := by
  intro n l0 l1 l2 l3 l4 s0 s1 M hcl hR_l0 hR_l1 h
  rw [f_Codes_tell_36] at h
  have g := zFr.rf hcl
  obtain ⟨v1, e2, h⟩ := zlet_ex h
  by_cases c21 : v1 ≤ l3
  · have h := zift h c21
    by_cases c20 : l4 ≤ (127 : Int32)
    · have h := zift h c20
      obtain ⟨h3, h⟩ := zif h
      have r1 : Rg (z_p M l0 3) := g.cl _ _ hR_l0
      obtain ⟨h4, h⟩ := zif h
      obtain ⟨q5, c6, h⟩ := zbd h
      have g := g.tr (G_Share_tell g.cl r1 hR_l1 c6)
      by_cases c16 : q5.1 = (-1 : Int32)
      · have h := zift h c16
        exact g.tr (g_Codes_tell_113 n q5.2 g.cl h)
      · have h := ziff h c16
        obtain ⟨h7, h⟩ := zif h
        have r2 : Rg (z_p q5.2 l0 4) := g.cl _ _ hR_l0
        obtain ⟨h8, h⟩ := zif h
        obtain ⟨q9, c10, h⟩ := zbd h
        have g := g.tr (G_Stream_open g.cl r2 hR_l1 c10)
        by_cases c15 : q9.1 = 0
        · have h := zift h c15
          exact g.tr (g_Codes_tell_113 n q9.2 g.cl h)
        · have h := ziff h c15
          obtain ⟨h11, h⟩ := zif h
          obtain ⟨q12, c13, h⟩ := zbd h
          have g := g.tr (G_Codes_takeCoded g.cl hR_l0 c13)
          by_cases c14 : q12.1 = 0
          · have h := zift h c14
            exact g.tr (g_Codes_tell_113 n q12.2 g.cl h)
          · have h := ziff h c14
            exact g.tr (g_Codes_tell_115 n l0 v1 q12.2 g.cl hR_l0 h)
    · have h := ziff h c20
      obtain ⟨h17, h⟩ := zif h
      obtain ⟨q18, c19, h⟩ := zbd h
      have g := g.tr (G_Codes_takePlain g.cl hR_l0 hR_l1 c19)
      exact g.tr (g_Codes_tell_115 n l0 v1 q18.2 g.cl hR_l0 h)
  · have h := ziff h c21
    obtain rfl := z_res h
    exact g
set_option maxRecDepth 100000 in
set_option maxHeartbeats 4000000 in
theorem g_Codes_tell_0 {Rg : Nat → Prop} {O : zO} {q : Int32 × zM} : ∀ (n : Nat) (l0 : Nat) (l1 : Nat) (l2 : Int32) (l3 : Int32) (M : zM), zCl Rg M → Rg l0 → Rg l1 → f_Codes_tell_0 O n l0 l1 l2 l3 M = some q → zFr Rg M q.2 := by
  intro n l0 l1 l2 l3 M hcl hR_l0 hR_l1 h
  rw [f_Codes_tell_0] at h
  have g := zFr.rf hcl
  by_cases c5 : l2 < l3
  · have h := zift h c5
    obtain ⟨h1, h⟩ := zif h
    obtain ⟨q2, c3, h⟩ := zbd h
    have g := g.tr (G_Row_at g.cl hR_l1 c3)
    by_cases c4 : q2.1 ≤ (127 : Int32)
    · have h := zift h c4
      exact g.tr (g_Codes_tell_36 n l0 l1 l2 l3 q2.1 (l2 + (1 : Int32)) q2.1 q2.2 g.cl hR_l0 hR_l1 h)
    · have h := ziff h c4
      exact g.tr (g_Codes_tell_36 n l0 l1 l2 l3 q2.1 (l2 + (1 : Int32)) ((q2.1 - (126 : Int32)) / (2 : Int32)) q2.2 g.cl hR_l0 hR_l1 h)
  · have h := ziff h c5
    obtain rfl := z_res h
    exact g
theorem G_Codes_tell {Rg : Nat → Prop} {O : zO} {n : Nat} {l0 : Nat} {l1 : Nat} {l2 : Int32} {l3 : Int32} {M : zM} {q : Int32 × zM} (hcl : zCl Rg M) (hR_l0 : Rg l0) (hR_l1 : Rg l1) (h : F_Codes_tell O n l0 l1 l2 l3 M = some q) : zFr Rg M q.2 := g_Codes_tell_0 n l0 l1 l2 l3 M hcl hR_l0 hR_l1 h

set_option maxRecDepth 100000 in
set_option maxHeartbeats 4000000 in
theorem g_Dict_tellShare_0 {Rg : Nat → Prop} {O : zO} {q : Int32 × zM} : ∀ (n : Nat) (l0 : Nat) (l1 : Int32) (l2 : Nat) (l3 : Int32) (M : zM), zCl Rg M → Rg l0 → Rg l2 → f_Dict_tellShare_0 O n l0 l1 l2 l3 M = some q → zFr Rg M q.2 := by
  intro n l0 l1 l2 l3 M hcl hR_l0 hR_l2 h
  rw [f_Dict_tellShare_0] at h
  have g := zFr.rf hcl
  obtain ⟨h1, h⟩ := zif h
  have r1 : Rg (z_p M l0 7) := g.cl _ _ hR_l0
  obtain ⟨h2, h⟩ := zif h
  obtain ⟨h3, h⟩ := zif h
  have r2 : Rg (z_p M (z_p M l0 7) l1.toNatClampNeg) := g.cl _ _ r1
  obtain ⟨h4, h⟩ := zif h
  obtain ⟨h5, h⟩ := zif h
  obtain ⟨q6, c7, h⟩ := zbd h
  have g := g.tr (G_Share_tell g.cl r2 hR_l2 c7)
  obtain rfl := z_res h
  exact g
theorem G_Dict_tellShare {Rg : Nat → Prop} {O : zO} {n : Nat} {l0 : Nat} {l1 : Int32} {l2 : Nat} {l3 : Int32} {M : zM} {q : Int32 × zM} (hcl : zCl Rg M) (hR_l0 : Rg l0) (hR_l2 : Rg l2) (h : F_Dict_tellShare O n l0 l1 l2 l3 M = some q) : zFr Rg M q.2 := g_Dict_tellShare_0 n l0 l1 l2 l3 M hcl hR_l0 hR_l2 h

set_option maxRecDepth 100000 in
set_option maxHeartbeats 4000000 in
theorem g_Latest_set_0 {Rg : Nat → Prop} {O : zO} {q : Unit × zM} : ∀ (n : Nat) (l0 : Nat) (l1 : Int64) (l3 : Int64) (l5 : Int64) (M : zM), zCl Rg M → Rg l0 → f_Latest_set_0 O n l0 l1 l3 l5 M = some q → zFr Rg M q.2 := by
  intro n l0 l1 l3 l5 M hcl hR_l0 h
  rw [f_Latest_set_0] at h
  have g := zFr.rf hcl
  obtain ⟨h1, h⟩ := zif h
  obtain ⟨M2, e3, h⟩ := zlet_ex h
  have g := g.j hR_l0 e3
  have h4 := k_j e3 h1
  obtain ⟨M5, e6, h⟩ := zlet_ex h
  have g := g.j hR_l0 e6
  have h7 := k_j e6 h4
  obtain ⟨M8, e9, h⟩ := zlet_ex h
  have g := g.j hR_l0 e9
  have h10 := k_j e9 h7
  obtain rfl := z_res h
  exact g
theorem G_Latest_set {Rg : Nat → Prop} {O : zO} {n : Nat} {l0 : Nat} {l1 : Int64} {l3 : Int64} {l5 : Int64} {M : zM} {q : Unit × zM} (hcl : zCl Rg M) (hR_l0 : Rg l0) (h : F_Latest_set O n l0 l1 l3 l5 M = some q) : zFr Rg M q.2 := g_Latest_set_0 n l0 l1 l3 l5 M hcl hR_l0 h

set_option maxRecDepth 100000 in
set_option maxHeartbeats 4000000 in
theorem g_Dict_swapSpare_0 {Rg : Nat → Prop} {O : zO} {q : Unit × zM} : ∀ (n : Nat) (l0 : Nat) (M : zM), zCl Rg M → Rg l0 → f_Dict_swapSpare_0 O n l0 M = some q → zFr Rg M q.2 := by
  intro n l0 M hcl hR_l0 h
  rw [f_Dict_swapSpare_0] at h
  have g := zFr.rf hcl
  obtain ⟨h1, h⟩ := zif h
  have r1 : Rg (z_p M l0 4) := g.cl _ _ hR_l0
  obtain ⟨v2, e3, h⟩ := zlet_ex h
  have r2 : Rg v2 := e3 ▸ r1
  have r3 : Rg (z_p M l0 6) := g.cl _ _ hR_l0
  obtain ⟨M4, e5, h⟩ := zlet_ex h
  have g := g.p hR_l0 r3 (by rw [h1]; rfl) e5
  have h6 := k_p e5 h1
  obtain ⟨M7, e8, h⟩ := zlet_ex h
  have g := g.p hR_l0 r2 (by rw [h6]; rfl) e8
  have h9 := k_p e8 h6
  have r4 : Rg (z_p M7 l0 5) := g.cl _ _ hR_l0
  obtain ⟨v10, e11, h⟩ := zlet_ex h
  have r5 : Rg v10 := e11 ▸ r4
  have r6 : Rg (z_p M7 l0 7) := g.cl _ _ hR_l0
  obtain ⟨M12, e13, h⟩ := zlet_ex h
  have g := g.p hR_l0 r6 (by rw [h9]; rfl) e13
  have h14 := k_p e13 h9
  obtain ⟨M15, e16, h⟩ := zlet_ex h
  have g := g.p hR_l0 r5 (by rw [h14]; rfl) e16
  have h17 := k_p e16 h14
  obtain rfl := z_res h
  exact g
theorem G_Dict_swapSpare {Rg : Nat → Prop} {O : zO} {n : Nat} {l0 : Nat} {M : zM} {q : Unit × zM} (hcl : zCl Rg M) (hR_l0 : Rg l0) (h : F_Dict_swapSpare O n l0 M = some q) : zFr Rg M q.2 := g_Dict_swapSpare_0 n l0 M hcl hR_l0 h

set_option maxRecDepth 100000 in
set_option maxHeartbeats 4000000 in
theorem g_Row_putPart_65 {Rg : Nat → Prop} {O : zO} {q : Unit × zM} : ∀ (n : Nat) (M : zM), zCl Rg M → f_Row_putPart_65 O n M = some q → zFr Rg M q.2 := by
  intro n M hcl h
  rw [f_Row_putPart_65] at h
  have g := zFr.rf hcl
  obtain rfl := z_res h
  exact g
set_option maxRecDepth 100000 in
set_option maxHeartbeats 4000000 in
theorem g_Row_putPart_0 {Rg : Nat → Prop} {O : zO} {q : Unit × zM} : ∀ (n : Nat) (l0 : Nat) (l1 : Nat) (l2 : Int32) (l3 : Int32) (M : zM), zCl Rg M → Rg l0 → Rg l1 → f_Row_putPart_0 O n l0 l1 l2 l3 M = some q → zFr Rg M q.2 := by
  intro n l0 l1 l2 l3 M hcl hR_l0 hR_l1 h
  rw [f_Row_putPart_0] at h
  have g := zFr.rf hcl
  obtain ⟨h1, h⟩ := zif h
  have r1 : Rg (z_p M l0 0) := g.cl _ _ hR_l0
  obtain ⟨h2, h⟩ := zif h
  obtain ⟨q3, c4, h⟩ := zbd h
  have g := g.tr (G_JMath_min g.cl c4)
  by_cases c19 : q3.1 ≤ 0
  · have h := zift h c19
    exact g.tr (g_Row_putPart_65 n q3.2 g.cl h)
  · have h := ziff h c19
    by_cases c18 : l2 < 0
    · have h := zift h c18
      exact g.tr (g_Row_putPart_65 n q3.2 g.cl h)
    · have h := ziff h c18
      obtain ⟨h5, h⟩ := zif h
      by_cases c17 : ((z_i q3.2 l1 1) - q3.1) < l2
      · have h := zift h c17
        exact g.tr (g_Row_putPart_65 n q3.2 g.cl h)
      · have h := ziff h c17
        have r2 : Rg (z_p q3.2 l1 0) := g.cl _ _ hR_l1
        obtain ⟨h6, h⟩ := zif h
        have r3 : Rg (z_p q3.2 l0 0) := g.cl _ _ hR_l0
        obtain ⟨h7, h⟩ := zif h
        obtain ⟨h8, h⟩ := zif h
        obtain ⟨h9, h⟩ := zif h
        obtain ⟨h10, h⟩ := zif h
        obtain ⟨M11, e12, h⟩ := zlet_ex h
        have g := g.c r3 e12
        obtain ⟨h13, h⟩ := zif h
        obtain ⟨M14, e15, h⟩ := zlet_ex h
        have g := g.i hR_l0 e15
        have h16 := k_i e15 h13
        exact g.tr (g_Row_putPart_65 n M14 g.cl h)
theorem G_Row_putPart {Rg : Nat → Prop} {O : zO} {n : Nat} {l0 : Nat} {l1 : Nat} {l2 : Int32} {l3 : Int32} {M : zM} {q : Unit × zM} (hcl : zCl Rg M) (hR_l0 : Rg l0) (hR_l1 : Rg l1) (h : F_Row_putPart O n l0 l1 l2 l3 M = some q) : zFr Rg M q.2 := g_Row_putPart_0 n l0 l1 l2 l3 M hcl hR_l0 hR_l1 h

set_option maxRecDepth 100000 in
set_option maxHeartbeats 4000000 in
theorem g_Dict_takeContent_0 {Rg : Nat → Prop} {O : zO} {q : Int32 × zM} : ∀ (n : Nat) (l0 : Nat) (l1 : Nat) (l2 : Int32) (M : zM), zCl Rg M → Rg l0 → Rg l1 → f_Dict_takeContent_0 O n l0 l1 l2 M = some q → zFr Rg M q.2 := by
  intro n l0 l1 l2 M hcl hR_l0 hR_l1 h
  rw [f_Dict_takeContent_0] at h
  have g := zFr.rf hcl
  obtain ⟨h1, h⟩ := zif h
  have r1 : Rg (z_p M l0 0) := g.cl _ _ hR_l0
  obtain ⟨h2, h⟩ := zif h
  obtain ⟨q3, c4, h⟩ := zbd h
  have g := g.tr (G_Row_empty g.cl r1 c4)
  obtain ⟨h5, h⟩ := zif h
  have r2 : Rg (z_p q3.2 l0 0) := g.cl _ _ hR_l0
  obtain ⟨h6, h⟩ := zif h
  obtain ⟨h7, h⟩ := zif h
  obtain ⟨q8, c9, h⟩ := zbd h
  have g := g.tr (G_Row_putPart g.cl r2 hR_l1 c9)
  obtain ⟨h10, h⟩ := zif h
  have r3 : Rg (z_p q8.2 l0 0) := g.cl _ _ hR_l0
  obtain ⟨h11, h⟩ := zif h
  obtain rfl := z_res h
  exact g
theorem G_Dict_takeContent {Rg : Nat → Prop} {O : zO} {n : Nat} {l0 : Nat} {l1 : Nat} {l2 : Int32} {M : zM} {q : Int32 × zM} (hcl : zCl Rg M) (hR_l0 : Rg l0) (hR_l1 : Rg l1) (h : F_Dict_takeContent O n l0 l1 l2 M = some q) : zFr Rg M q.2 := g_Dict_takeContent_0 n l0 l1 l2 M hcl hR_l0 hR_l1 h

set_option maxRecDepth 100000 in
set_option maxHeartbeats 4000000 in
theorem g_Dict_takeTold_139 {Rg : Nat → Prop} {O : zO} {q : Int32 × zM} : ∀ (n : Nat) (M : zM), zCl Rg M → f_Dict_takeTold_139 O n M = some q → zFr Rg M q.2 := by
  intro n M hcl h
  rw [f_Dict_takeTold_139] at h
  have g := zFr.rf hcl
  obtain rfl := z_res h
  exact g
set_option maxRecDepth 100000 in
set_option maxHeartbeats 4000000 in
theorem g_Dict_takeTold_99 {Rg : Nat → Prop} {O : zO} {q : Int32 × zM} : ∀ (n : Nat) (l0 : Nat) (l1 : Nat) (l2 : Int32) (l3 : Int32) (M : zM), zCl Rg M → Rg l0 → Rg l1 → f_Dict_takeTold_99 O n l0 l1 l2 l3 M = some q → zFr Rg M q.2 := by
  intro n
  induction n with
  | zero => intro l0 l1 l2 l3 M hcl hR_l0 hR_l1 h; rw [f_Dict_takeTold_99] at h; cases h
  | succ n ih =>
    intro l0 l1 l2 l3 M hcl hR_l0 hR_l1 h
    rw [f_Dict_takeTold_99] at h
    have g := zFr.rf hcl
    by_cases c37 : (3 : Int32) ≤ l3
    · have h := zift h c37
      obtain ⟨h1, h⟩ := zif h
      have r2 : Rg (z_p M l0 1) := g.cl _ _ hR_l0
      obtain ⟨h2, h⟩ := zif h
      obtain ⟨q3, c4, h⟩ := zbd h
      have g := g.tr (G_Row_number g.cl hR_l1 c4)
      obtain ⟨h5, h⟩ := zif h
      obtain ⟨q6, c7, h⟩ := zbd h
      have g := g.tr (G_Row_number g.cl hR_l1 c7)
      obtain ⟨h8, h⟩ := zif h
      obtain ⟨q9, c10, h⟩ := zbd h
      have g := g.tr (G_Row_number g.cl hR_l1 c10)
      obtain ⟨h11, h⟩ := zif h
      obtain ⟨q12, c13, h⟩ := zbd h
      have g := g.tr (G_Latest_set g.cl r2 c13)
      obtain ⟨h14, h⟩ := zif h
      obtain ⟨q15, c16, h⟩ := zbd h
      have g := g.tr (G_Row_number g.cl hR_l1 c16)
      obtain ⟨h17, h⟩ := zif h
      obtain ⟨M18, e19, h⟩ := zlet_ex h
      have g := g.j hR_l0 e19
      have h20 := k_j e19 h17
      obtain ⟨M21, e22, h⟩ := zlet_ex h
      have g := g.i hR_l0 e22
      have h23 := k_i e22 h20
      obtain ⟨q24, c25, h⟩ := zbd h
      have g := g.tr (G_Dict_swapSpare g.cl hR_l0 c25)
      obtain ⟨h26, h⟩ := zif h
      obtain ⟨q27, c28, h⟩ := zbd h
      have g := g.tr (G_Dict_takeContent g.cl hR_l0 hR_l1 c28)
      obtain rfl := z_res h
      exact g
    · have h := ziff h c37
      obtain ⟨h29, h⟩ := zif h
      obtain ⟨q30, c31, h⟩ := zbd h
      have g := g.tr (G_Row_number g.cl hR_l1 c31)
      by_cases c36 : (lg_cmp q30.1 (0 : Int64)) = 0
      · have h := zift h c36
        exact g.tr (g_Dict_takeTold_139 n q30.2 g.cl h)
      · have h := ziff h c36
        obtain ⟨h32, h⟩ := zif h
        by_cases c35 : (lg_cmp q30.1 (((z_i q30.2 l1 1) - l2) - (12 : Int32)).toInt64) ≤ 0
        · have h := zift h c35
          obtain ⟨v33, e34, h⟩ := zlet_ex h
          exact g.tr (ih l0 l1 l2 v33 q30.2 g.cl hR_l0 hR_l1 h)
        · have h := ziff h c35
          exact g.tr (g_Dict_takeTold_139 n q30.2 g.cl h)
set_option maxRecDepth 100000 in
set_option maxHeartbeats 4000000 in
theorem g_Dict_takeTold_75 {Rg : Nat → Prop} {O : zO} {q : Int32 × zM} : ∀ (n : Nat) (l0 : Nat) (l1 : Nat) (s0 : Int32) (M : zM), zCl Rg M → Rg l0 → Rg l1 → f_Dict_takeTold_75 O n l0 l1 s0 M = some q → zFr Rg M q.2 := by
  intro n l0 l1 s0 M hcl hR_l0 hR_l1 h
  rw [f_Dict_takeTold_75] at h
  have g := zFr.rf hcl
  by_cases c3 : s0 = (-1 : Int32)
  · have h := zift h c3
    obtain rfl := z_res h
    exact g
  · have h := ziff h c3
    obtain ⟨h1, h⟩ := zif h
    by_cases c2 : (12 : Int32) ≤ ((z_i M l1 1) - s0)
    · have h := zift h c2
      exact g.tr (g_Dict_takeTold_99 n l0 l1 s0 (0 : Int32) M g.cl hR_l0 hR_l1 h)
    · have h := ziff h c2
      obtain rfl := z_res h
      exact g
set_option maxRecDepth 100000 in
set_option maxHeartbeats 4000000 in
theorem g_Dict_takeTold_58 {Rg : Nat → Prop} {O : zO} {q : Int32 × zM} : ∀ (n : Nat) (l0 : Nat) (l1 : Nat) (s0 : Int32) (M : zM), zCl Rg M → Rg l0 → Rg l1 → f_Dict_takeTold_58 O n l0 l1 s0 M = some q → zFr Rg M q.2 := by
  intro n l0 l1 s0 M hcl hR_l0 hR_l1 h
  rw [f_Dict_takeTold_58] at h
  have g := zFr.rf hcl
  by_cases c4 : s0 = (-1 : Int32)
  · have h := zift h c4
    exact g.tr (g_Dict_takeTold_75 n l0 l1 (-1 : Int32) M g.cl hR_l0 hR_l1 h)
  · have h := ziff h c4
    obtain ⟨h1, h⟩ := zif h
    obtain ⟨q2, c3, h⟩ := zbd h
    have g := g.tr (G_Dict_tellShare g.cl hR_l0 hR_l1 c3)
    exact g.tr (g_Dict_takeTold_75 n l0 l1 q2.1 q2.2 g.cl hR_l0 hR_l1 h)
set_option maxRecDepth 100000 in
set_option maxHeartbeats 4000000 in
theorem g_Dict_takeTold_0 {Rg : Nat → Prop} {O : zO} {q : Int32 × zM} : ∀ (n : Nat) (l0 : Nat) (l1 : Nat) (M : zM), zCl Rg M → Rg l0 → Rg l1 → f_Dict_takeTold_0 O n l0 l1 M = some q → zFr Rg M q.2 := by
  intro n l0 l1 M hcl hR_l0 hR_l1 h
  rw [f_Dict_takeTold_0] at h
  have g := zFr.rf hcl
  obtain ⟨h1, h⟩ := zif h
  by_cases c14 : (8 : Int32) ≤ (z_i M l1 1)
  · have h := zift h c14
    obtain ⟨h2, h⟩ := zif h
    have r1 : Rg (z_p M l0 6) := g.cl _ _ hR_l0
    obtain ⟨h3, h⟩ := zif h
    obtain ⟨q4, c5, h⟩ := zbd h
    have g := g.tr (G_Codes_tell g.cl r1 hR_l1 c5)
    by_cases c13 : q4.1 = (-1 : Int32)
    · have h := zift h c13
      obtain rfl := z_res h
      exact g
    · have h := ziff h c13
      obtain ⟨h6, h⟩ := zif h
      obtain ⟨q7, c8, h⟩ := zbd h
      have g := g.tr (G_Dict_tellShare g.cl hR_l0 hR_l1 c8)
      by_cases c12 : q7.1 = (-1 : Int32)
      · have h := zift h c12
        exact g.tr (g_Dict_takeTold_58 n l0 l1 (-1 : Int32) q7.2 g.cl hR_l0 hR_l1 h)
      · have h := ziff h c12
        obtain ⟨h9, h⟩ := zif h
        obtain ⟨q10, c11, h⟩ := zbd h
        have g := g.tr (G_Dict_tellShare g.cl hR_l0 hR_l1 c11)
        exact g.tr (g_Dict_takeTold_58 n l0 l1 q10.1 q10.2 g.cl hR_l0 hR_l1 h)
  · have h := ziff h c14
    obtain rfl := z_res h
    exact g
theorem G_Dict_takeTold {Rg : Nat → Prop} {O : zO} {n : Nat} {l0 : Nat} {l1 : Nat} {M : zM} {q : Int32 × zM} (hcl : zCl Rg M) (hR_l0 : Rg l0) (hR_l1 : Rg l1) (h : F_Dict_takeTold O n l0 l1 M = some q) : zFr Rg M q.2 := g_Dict_takeTold_0 n l0 l1 M hcl hR_l0 hR_l1 h

set_option maxRecDepth 100000 in
set_option maxHeartbeats 4000000 in
theorem g_Dict_takeFrom_27 {Rg : Nat → Prop} {O : zO} {q : Int32 × zM} : ∀ (n : Nat) (l0 : Nat) (l1 : Nat) (M : zM), zCl Rg M → Rg l0 → Rg l1 → f_Dict_takeFrom_27 O n l0 l1 M = some q → zFr Rg M q.2 := by
  intro n l0 l1 M hcl hR_l0 hR_l1 h
  rw [f_Dict_takeFrom_27] at h
  have g := zFr.rf hcl
  obtain ⟨h1, h⟩ := zif h
  obtain ⟨M2, e3, h⟩ := zlet_ex h
  have g := g.j hR_l0 e3
  have h4 := k_j e3 h1
  obtain ⟨M5, e6, h⟩ := zlet_ex h
  have g := g.i hR_l0 e6
  have h7 := k_i e6 h4
  obtain ⟨q8, c9, h⟩ := zbd h
  have g := g.tr (G_Dict_takeContent g.cl hR_l0 hR_l1 c9)
  obtain rfl := z_res h
  exact g
set_option maxRecDepth 100000 in
set_option maxHeartbeats 4000000 in
theorem g_Dict_takeFrom_0 {Rg : Nat → Prop} {O : zO} {q : Int32 × zM} : ∀ (n : Nat) (l0 : Nat) (l1 : Nat) (M : zM), zCl Rg M → Rg l0 → Rg l1 → f_Dict_takeFrom_0 O n l0 l1 M = some q → zFr Rg M q.2 := by
  intro n l0 l1 M hcl hR_l0 hR_l1 h
  rw [f_Dict_takeFrom_0] at h
  have g := zFr.rf hcl
  obtain ⟨h1, h⟩ := zif h
  by_cases c8 : (z_i M l1 1) < (4 : Int32)
  · have h := zift h c8
    exact g.tr (g_Dict_takeFrom_27 n l0 l1 M g.cl hR_l0 hR_l1 h)
  · have h := ziff h c8
    obtain ⟨q2, c3, h⟩ := zbd h
    have g := g.tr (G_Row_number g.cl hR_l1 c3)
    by_cases c7 : (lg_cmp q2.1 (3962610743 : Int64)) = 0
    · have h := zift h c7
      obtain ⟨h4, h⟩ := zif h
      obtain ⟨q5, c6, h⟩ := zbd h
      have g := g.tr (G_Dict_takeTold g.cl hR_l0 hR_l1 c6)
      obtain rfl := z_res h
      exact g
    · have h := ziff h c7
      exact g.tr (g_Dict_takeFrom_27 n l0 l1 q2.2 g.cl hR_l0 hR_l1 h)
theorem G_Dict_takeFrom {Rg : Nat → Prop} {O : zO} {n : Nat} {l0 : Nat} {l1 : Nat} {M : zM} {q : Int32 × zM} (hcl : zCl Rg M) (hR_l0 : Rg l0) (hR_l1 : Rg l1) (h : F_Dict_takeFrom O n l0 l1 M = some q) : zFr Rg M q.2 := g_Dict_takeFrom_0 n l0 l1 M hcl hR_l0 hR_l1 h

set_option maxRecDepth 100000 in
set_option maxHeartbeats 4000000 in
theorem g_SF_learn_23 {Rg : Nat → Prop} {O : zO} {q : Int32 × zM} : ∀ (n : Nat) (l1 : Int32) (M : zM), zCl Rg M → f_SF_learn_23 O n l1 M = some q → zFr Rg M q.2 := by
  intro n l1 M hcl h
  rw [f_SF_learn_23] at h
  have g := zFr.rf hcl
  obtain rfl := z_res h
  exact g
set_option maxRecDepth 100000 in
set_option maxHeartbeats 4000000 in
theorem g_SF_learn_0 {Rg : Nat → Prop} {O : zO} {q : Int32 × zM} : ∀ (n : Nat) (l0 : Nat) (M : zM), zCl Rg M → Rg l0 → f_SF_learn_0 O n l0 M = some q → zFr Rg M q.2 := by
  intro n l0 M hcl hR_l0 h
  rw [f_SF_learn_0] at h
  have g := zFr.rf hcl
  obtain ⟨h1, h⟩ := zif h
  have r1 : Rg (z_p M l0 2) := g.cl _ _ hR_l0
  have r2 : Rg (z_p M l0 0) := g.cl _ _ hR_l0
  obtain ⟨h2, h⟩ := zif h
  obtain ⟨q3, c4, h⟩ := zbd h
  have g := g.tr (G_Dict_takeFrom g.cl r1 r2 c4)
  by_cases c9 : q3.1 < 0
  · have h := zift h c9
    exact g.tr (g_SF_learn_23 n q3.1 q3.2 g.cl h)
  · have h := ziff h c9
    obtain ⟨h5, h⟩ := zif h
    have r3 : Rg (z_p q3.2 l0 0) := g.cl _ _ hR_l0
    obtain ⟨h6, h⟩ := zif h
    obtain ⟨q7, c8, h⟩ := zbd h
    have g := g.tr (G_Row_empty g.cl r3 c8)
    exact g.tr (g_SF_learn_23 n q3.1 q7.2 g.cl h)
theorem G_SF_learn {Rg : Nat → Prop} {O : zO} {n : Nat} {l0 : Nat} {M : zM} {q : Int32 × zM} (hcl : zCl Rg M) (hR_l0 : Rg l0) (h : F_SF_learn O n l0 M = some q) : zFr Rg M q.2 := g_SF_learn_0 n l0 M hcl hR_l0 h

set_option maxRecDepth 100000 in
set_option maxHeartbeats 4000000 in
theorem g_Dict_drop_0 {Rg : Nat → Prop} {O : zO} {q : Unit × zM} : ∀ (n : Nat) (l0 : Nat) (M : zM), zCl Rg M → Rg l0 → f_Dict_drop_0 O n l0 M = some q → zFr Rg M q.2 := by
  intro n l0 M hcl hR_l0 h
  rw [f_Dict_drop_0] at h
  have g := zFr.rf hcl
  obtain ⟨h1, h⟩ := zif h
  have r1 : Rg (z_p M l0 0) := g.cl _ _ hR_l0
  obtain ⟨h2, h⟩ := zif h
  obtain ⟨q3, c4, h⟩ := zbd h
  have g := g.tr (G_Row_empty g.cl r1 c4)
  obtain ⟨h5, h⟩ := zif h
  obtain ⟨M6, e7, h⟩ := zlet_ex h
  have g := g.j hR_l0 e7
  have h8 := k_j e7 h5
  obtain ⟨M9, e10, h⟩ := zlet_ex h
  have g := g.i hR_l0 e10
  have h11 := k_i e10 h8
  obtain rfl := z_res h
  exact g
theorem G_Dict_drop {Rg : Nat → Prop} {O : zO} {n : Nat} {l0 : Nat} {M : zM} {q : Unit × zM} (hcl : zCl Rg M) (hR_l0 : Rg l0) (h : F_Dict_drop O n l0 M = some q) : zFr Rg M q.2 := g_Dict_drop_0 n l0 M hcl hR_l0 h

set_option maxRecDepth 100000 in
set_option maxHeartbeats 4000000 in
theorem g_SF_forget_0 {Rg : Nat → Prop} {O : zO} {q : Unit × zM} : ∀ (n : Nat) (l0 : Nat) (M : zM), zCl Rg M → Rg l0 → f_SF_forget_0 O n l0 M = some q → zFr Rg M q.2 := by
  intro n l0 M hcl hR_l0 h
  rw [f_SF_forget_0] at h
  have g := zFr.rf hcl
  obtain ⟨h1, h⟩ := zif h
  have r1 : Rg (z_p M l0 2) := g.cl _ _ hR_l0
  obtain ⟨h2, h⟩ := zif h
  obtain ⟨q3, c4, h⟩ := zbd h
  have g := g.tr (G_Dict_drop g.cl r1 c4)
  obtain rfl := z_res h
  exact g
theorem G_SF_forget {Rg : Nat → Prop} {O : zO} {n : Nat} {l0 : Nat} {M : zM} {q : Unit × zM} (hcl : zCl Rg M) (hR_l0 : Rg l0) (h : F_SF_forget O n l0 M = some q) : zFr Rg M q.2 := g_SF_forget_0 n l0 M hcl hR_l0 h

set_option maxRecDepth 100000 in
set_option maxHeartbeats 4000000 in
theorem g_Rep_start_0 {Rg : Nat → Prop} {O : zO} {q : Unit × zM} : ∀ (n : Nat) (l0 : Nat) (M : zM), zCl Rg M → Rg l0 → f_Rep_start_0 O n l0 M = some q → zFr Rg M q.2 := by
  intro n l0 M hcl hR_l0 h
  rw [f_Rep_start_0] at h
  have g := zFr.rf hcl
  obtain ⟨h1, h⟩ := zif h
  obtain ⟨M2, e3, h⟩ := zlet_ex h
  have g := g.i hR_l0 e3
  have h4 := k_i e3 h1
  obtain ⟨M5, e6, h⟩ := zlet_ex h
  have g := g.i hR_l0 e6
  have h7 := k_i e6 h4
  obtain ⟨M8, e9, h⟩ := zlet_ex h
  have g := g.i hR_l0 e9
  have h10 := k_i e9 h7
  obtain ⟨M11, e12, h⟩ := zlet_ex h
  have g := g.i hR_l0 e12
  have h13 := k_i e12 h10
  obtain ⟨M14, e15, h⟩ := zlet_ex h
  have g := g.i hR_l0 e15
  have h16 := k_i e15 h13
  obtain ⟨M17, e18, h⟩ := zlet_ex h
  have g := g.i hR_l0 e18
  have h19 := k_i e18 h16
  obtain rfl := z_res h
  exact g
theorem G_Rep_start {Rg : Nat → Prop} {O : zO} {n : Nat} {l0 : Nat} {M : zM} {q : Unit × zM} (hcl : zCl Rg M) (hR_l0 : Rg l0) (h : F_Rep_start O n l0 M = some q) : zFr Rg M q.2 := g_Rep_start_0 n l0 M hcl hR_l0 h

set_option maxRecDepth 100000 in
set_option maxHeartbeats 4000000 in
theorem g_Content_start_0 {Rg : Nat → Prop} {O : zO} {q : Unit × zM} : ∀ (n : Nat) (l0 : Nat) (l1 : Int32) (M : zM), zCl Rg M → Rg l0 → f_Content_start_0 O n l0 l1 M = some q → zFr Rg M q.2 := by
  intro n l0 l1 M hcl hR_l0 h
  rw [f_Content_start_0] at h
  have g := zFr.rf hcl
  obtain ⟨h1, h⟩ := zif h
  have r1 : Rg (z_p M l0 0) := g.cl _ _ hR_l0
  obtain ⟨h2, h⟩ := zif h
  obtain ⟨q3, c4, h⟩ := zbd h
  have g := g.tr (G_Row_empty g.cl r1 c4)
  obtain ⟨h5, h⟩ := zif h
  obtain ⟨M6, e7, h⟩ := zlet_ex h
  have g := g.i hR_l0 e7
  have h8 := k_i e7 h5
  obtain rfl := z_res h
  exact g
theorem G_Content_start {Rg : Nat → Prop} {O : zO} {n : Nat} {l0 : Nat} {l1 : Int32} {M : zM} {q : Unit × zM} (hcl : zCl Rg M) (hR_l0 : Rg l0) (h : F_Content_start O n l0 l1 M = some q) : zFr Rg M q.2 := g_Content_start_0 n l0 l1 M hcl hR_l0 h

set_option maxRecDepth 100000 in
set_option maxHeartbeats 4000000 in
theorem g_FR_start_0 {Rg : Nat → Prop} {O : zO} {q : Unit × zM} : ∀ (n : Nat) (l0 : Nat) (l1 : Int32) (M : zM), zCl Rg M → Rg l0 → f_FR_start_0 O n l0 l1 M = some q → zFr Rg M q.2 := by
  intro n l0 l1 M hcl hR_l0 h
  rw [f_FR_start_0] at h
  have g := zFr.rf hcl
  obtain ⟨h1, h⟩ := zif h
  have r1 : Rg (z_p M l0 2) := g.cl _ _ hR_l0
  obtain ⟨h2, h⟩ := zif h
  obtain ⟨q3, c4, h⟩ := zbd h
  have g := g.tr (G_Rep_start g.cl r1 c4)
  obtain ⟨h5, h⟩ := zif h
  have r2 : Rg (z_p q3.2 l0 3) := g.cl _ _ hR_l0
  obtain ⟨h6, h⟩ := zif h
  obtain ⟨q7, c8, h⟩ := zbd h
  have g := g.tr (G_Content_start g.cl r2 c8)
  obtain ⟨h9, h⟩ := zif h
  obtain ⟨M10, e11, h⟩ := zlet_ex h
  have g := g.i hR_l0 e11
  have h12 := k_i e11 h9
  obtain ⟨M13, e14, h⟩ := zlet_ex h
  have g := g.i hR_l0 e14
  have h15 := k_i e14 h12
  obtain rfl := z_res h
  exact g
theorem G_FR_start {Rg : Nat → Prop} {O : zO} {n : Nat} {l0 : Nat} {l1 : Int32} {M : zM} {q : Unit × zM} (hcl : zCl Rg M) (hR_l0 : Rg l0) (h : F_FR_start O n l0 l1 M = some q) : zFr Rg M q.2 := g_FR_start_0 n l0 l1 M hcl hR_l0 h

set_option maxRecDepth 100000 in
set_option maxHeartbeats 4000000 in
theorem g_FR_goesOn_36 {Rg : Nat → Prop} {O : zO} {q : Int32 × zM} : ∀ (n : Nat) (s0 : Int32) (M : zM), zCl Rg M → f_FR_goesOn_36 O n s0 M = some q → zFr Rg M q.2 := by
  intro n s0 M hcl h
  rw [f_FR_goesOn_36] at h
  have g := zFr.rf hcl
  obtain ⟨h1, h⟩ := zif h
  obtain rfl := z_res h
  exact g
set_option maxRecDepth 100000 in
set_option maxHeartbeats 4000000 in
theorem g_FR_goesOn_35 {Rg : Nat → Prop} {O : zO} {q : Int32 × zM} : ∀ (n : Nat) (M : zM), zCl Rg M → f_FR_goesOn_35 O n M = some q → zFr Rg M q.2 := by
  intro n M hcl h
  rw [f_FR_goesOn_35] at h
  have g := zFr.rf hcl
  exact g.tr (g_FR_goesOn_36 n (0 : Int32) M g.cl h)
set_option maxRecDepth 100000 in
set_option maxHeartbeats 4000000 in
theorem g_FR_goesOn_31 {Rg : Nat → Prop} {O : zO} {q : Int32 × zM} : ∀ (n : Nat) (M : zM), zCl Rg M → f_FR_goesOn_31 O n M = some q → zFr Rg M q.2 := by
  intro n M hcl h
  rw [f_FR_goesOn_31] at h
  have g := zFr.rf hcl
  exact g.tr (g_FR_goesOn_36 n (1 : Int32) M g.cl h)
set_option maxRecDepth 100000 in
set_option maxHeartbeats 4000000 in
theorem g_FR_goesOn_0 {Rg : Nat → Prop} {O : zO} {q : Int32 × zM} : ∀ (n : Nat) (l0 : Nat) (M : zM), zCl Rg M → Rg l0 → f_FR_goesOn_0 O n l0 M = some q → zFr Rg M q.2 := by
  intro n l0 M hcl hR_l0 h
  rw [f_FR_goesOn_0] at h
  have g := zFr.rf hcl
  obtain ⟨h1, h⟩ := zif h
  have r1 : Rg (z_p M l0 2) := g.cl _ _ hR_l0
  obtain ⟨h2, h⟩ := zif h
  by_cases c6 : (z_i M (z_p M l0 2) 0) = 0
  · have h := zift h c6
    by_cases c5 : (z_i M l0 7) = 0
    · have h := zift h c5
      have r2 : Rg (z_p M l0 0) := g.cl _ _ hR_l0
      obtain ⟨h3, h⟩ := zif h
      by_cases c4 : (z_i M (z_p M l0 0) 1) ≤ (z_i M l0 6)
      · have h := zift h c4
        exact g.tr (g_FR_goesOn_35 n M g.cl h)
      · have h := ziff h c4
        exact g.tr (g_FR_goesOn_31 n M g.cl h)
    · have h := ziff h c5
      exact g.tr (g_FR_goesOn_31 n M g.cl h)
  · have h := ziff h c6
    exact g.tr (g_FR_goesOn_35 n M g.cl h)
theorem G_FR_goesOn {Rg : Nat → Prop} {O : zO} {n : Nat} {l0 : Nat} {M : zM} {q : Int32 × zM} (hcl : zCl Rg M) (hR_l0 : Rg l0) (h : F_FR_goesOn O n l0 M = some q) : zFr Rg M q.2 := g_FR_goesOn_0 n l0 M hcl hR_l0 h

set_option maxRecDepth 100000 in
set_option maxHeartbeats 4000000 in
theorem g_FR_lacks_23 {Rg : Nat → Prop} {O : zO} {q : Int32 × zM} : ∀ (n : Nat) (s0 : Int32) (M : zM), zCl Rg M → f_FR_lacks_23 O n s0 M = some q → zFr Rg M q.2 := by
  intro n s0 M hcl h
  rw [f_FR_lacks_23] at h
  have g := zFr.rf hcl
  obtain ⟨h1, h⟩ := zif h
  obtain rfl := z_res h
  exact g
set_option maxRecDepth 100000 in
set_option maxHeartbeats 4000000 in
theorem g_FR_lacks_0 {Rg : Nat → Prop} {O : zO} {q : Int32 × zM} : ∀ (n : Nat) (l0 : Nat) (l1 : Int64) (M : zM), zCl Rg M → Rg l0 → f_FR_lacks_0 O n l0 l1 M = some q → zFr Rg M q.2 := by
  intro n l0 l1 M hcl hR_l0 h
  rw [f_FR_lacks_0] at h
  have g := zFr.rf hcl
  obtain ⟨h1, h⟩ := zif h
  have r1 : Rg (z_p M l0 0) := g.cl _ _ hR_l0
  obtain ⟨h2, h⟩ := zif h
  by_cases c3 : 0 ≤ (lg_cmp ((z_i M (z_p M l0 0) 1) - (z_i M l0 6)).toInt64 l1)
  · have h := zift h c3
    exact g.tr (g_FR_lacks_23 n (0 : Int32) M g.cl h)
  · have h := ziff h c3
    exact g.tr (g_FR_lacks_23 n (1 : Int32) M g.cl h)
theorem G_FR_lacks {Rg : Nat → Prop} {O : zO} {n : Nat} {l0 : Nat} {l1 : Int64} {M : zM} {q : Int32 × zM} (hcl : zCl Rg M) (hR_l0 : Rg l0) (h : F_FR_lacks O n l0 l1 M = some q) : zFr Rg M q.2 := g_FR_lacks_0 n l0 l1 M hcl hR_l0 h

set_option maxRecDepth 100000 in
set_option maxHeartbeats 4000000 in
theorem g_Rep_fail_0 {Rg : Nat → Prop} {O : zO} {q : Int32 × zM} : ∀ (n : Nat) (l0 : Nat) (l1 : Int32) (l2 : Int32) (M : zM), zCl Rg M → Rg l0 → f_Rep_fail_0 O n l0 l1 l2 M = some q → zFr Rg M q.2 := by
  intro n l0 l1 l2 M hcl hR_l0 h
  rw [f_Rep_fail_0] at h
  have g := zFr.rf hcl
  obtain ⟨h1, h⟩ := zif h
  obtain ⟨M2, e3, h⟩ := zlet_ex h
  have g := g.i hR_l0 e3
  have h4 := k_i e3 h1
  obtain ⟨M5, e6, h⟩ := zlet_ex h
  have g := g.i hR_l0 e6
  have h7 := k_i e6 h4
  obtain rfl := z_res h
  exact g
theorem G_Rep_fail {Rg : Nat → Prop} {O : zO} {n : Nat} {l0 : Nat} {l1 : Int32} {l2 : Int32} {M : zM} {q : Int32 × zM} (hcl : zCl Rg M) (hR_l0 : Rg l0) (h : F_Rep_fail O n l0 l1 l2 M = some q) : zFr Rg M q.2 := g_Rep_fail_0 n l0 l1 l2 M hcl hR_l0 h

set_option maxRecDepth 100000 in
set_option maxHeartbeats 4000000 in
theorem g_FR_endsWithin_0 {Rg : Nat → Prop} {O : zO} {q : Int32 × zM} : ∀ (n : Nat) (l0 : Nat) (M : zM), zCl Rg M → Rg l0 → f_FR_endsWithin_0 O n l0 M = some q → zFr Rg M q.2 := by
  intro n l0 M hcl hR_l0 h
  rw [f_FR_endsWithin_0] at h
  have g := zFr.rf hcl
  obtain ⟨h1, h⟩ := zif h
  have r1 : Rg (z_p M l0 2) := g.cl _ _ hR_l0
  have r2 : Rg (z_p M l0 0) := g.cl _ _ hR_l0
  obtain ⟨h2, h⟩ := zif h
  obtain ⟨h3, h⟩ := zif h
  obtain ⟨q4, c5, h⟩ := zbd h
  have g := g.tr (G_Rep_fail g.cl r1 c5)
  obtain ⟨h6, h⟩ := zif h
  obtain rfl := z_res h
  exact g
theorem G_FR_endsWithin {Rg : Nat → Prop} {O : zO} {n : Nat} {l0 : Nat} {M : zM} {q : Int32 × zM} (hcl : zCl Rg M) (hR_l0 : Rg l0) (h : F_FR_endsWithin O n l0 M = some q) : zFr Rg M q.2 := g_FR_endsWithin_0 n l0 M hcl hR_l0 h

set_option maxRecDepth 100000 in
set_option maxHeartbeats 4000000 in
theorem g_Content_mostOfBlock_21 {Rg : Nat → Prop} {O : zO} {q : Int32 × zM} : ∀ (n : Nat) (s0 : Int32) (M : zM), zCl Rg M → f_Content_mostOfBlock_21 O n s0 M = some q → zFr Rg M q.2 := by
  intro n s0 M hcl h
  rw [f_Content_mostOfBlock_21] at h
  have g := zFr.rf hcl
  obtain rfl := z_res h
  exact g
set_option maxRecDepth 100000 in
set_option maxHeartbeats 4000000 in
theorem g_Content_mostOfBlock_0 {Rg : Nat → Prop} {O : zO} {q : Int32 × zM} : ∀ (n : Nat) (l0 : Nat) (M : zM), zCl Rg M → Rg l0 → f_Content_mostOfBlock_0 O n l0 M = some q → zFr Rg M q.2 := by
  intro n l0 M hcl hR_l0 h
  rw [f_Content_mostOfBlock_0] at h
  have g := zFr.rf hcl
  obtain ⟨h1, h⟩ := zif h
  by_cases c2 : 0 ≤ (lg_cmp (z_j M l0 5) (131072 : Int64))
  · have h := zift h c2
    exact g.tr (g_Content_mostOfBlock_21 n (131072 : Int32) M g.cl h)
  · have h := ziff h c2
    exact g.tr (g_Content_mostOfBlock_21 n (z_j M l0 5).toInt32 M g.cl h)
theorem G_Content_mostOfBlock {Rg : Nat → Prop} {O : zO} {n : Nat} {l0 : Nat} {M : zM} {q : Int32 × zM} (hcl : zCl Rg M) (hR_l0 : Rg l0) (h : F_Content_mostOfBlock O n l0 M = some q) : zFr Rg M q.2 := g_Content_mostOfBlock_0 n l0 M hcl hR_l0 h

set_option maxRecDepth 100000 in
set_option maxHeartbeats 4000000 in
theorem g_Content_startBlock_0 {Rg : Nat → Prop} {O : zO} {q : Unit × zM} : ∀ (n : Nat) (l0 : Nat) (M : zM), zCl Rg M → Rg l0 → f_Content_startBlock_0 O n l0 M = some q → zFr Rg M q.2 := by
  intro n l0 M hcl hR_l0 h
  rw [f_Content_startBlock_0] at h
  have g := zFr.rf hcl
  obtain ⟨h1, h⟩ := zif h
  have r1 : Rg (z_p M l0 0) := g.cl _ _ hR_l0
  obtain ⟨h2, h⟩ := zif h
  obtain ⟨M3, e4, h⟩ := zlet_ex h
  have g := g.i hR_l0 e4
  have h5 := k_i e4 h1
  have h6 := k_i e4 h2
  obtain rfl := z_res h
  exact g
theorem G_Content_startBlock {Rg : Nat → Prop} {O : zO} {n : Nat} {l0 : Nat} {M : zM} {q : Unit × zM} (hcl : zCl Rg M) (hR_l0 : Rg l0) (h : F_Content_startBlock O n l0 M = some q) : zFr Rg M q.2 := g_Content_startBlock_0 n l0 M hcl hR_l0 h

set_option maxRecDepth 100000 in
set_option maxHeartbeats 4000000 in
theorem g_Content_overMost_21 {Rg : Nat → Prop} {O : zO} {q : Int32 × zM} : ∀ (n : Nat) (s0 : Int32) (M : zM), zCl Rg M → f_Content_overMost_21 O n s0 M = some q → zFr Rg M q.2 := by
  intro n s0 M hcl h
  rw [f_Content_overMost_21] at h
  have g := zFr.rf hcl
  obtain ⟨h1, h⟩ := zif h
  obtain rfl := z_res h
  exact g
set_option maxRecDepth 100000 in
set_option maxHeartbeats 4000000 in
theorem g_Content_overMost_0 {Rg : Nat → Prop} {O : zO} {q : Int32 × zM} : ∀ (n : Nat) (l0 : Nat) (l1 : Int32) (M : zM), zCl Rg M → Rg l0 → f_Content_overMost_0 O n l0 l1 M = some q → zFr Rg M q.2 := by
  intro n l0 l1 M hcl hR_l0 h
  rw [f_Content_overMost_0] at h
  have g := zFr.rf hcl
  obtain ⟨h1, h⟩ := zif h
  have r1 : Rg (z_p M l0 0) := g.cl _ _ hR_l0
  obtain ⟨h2, h⟩ := zif h
  by_cases c3 : l1 ≤ ((z_i M l0 2) - (z_i M (z_p M l0 0) 1))
  · have h := zift h c3
    exact g.tr (g_Content_overMost_21 n (0 : Int32) M g.cl h)
  · have h := ziff h c3
    exact g.tr (g_Content_overMost_21 n (1 : Int32) M g.cl h)
theorem G_Content_overMost {Rg : Nat → Prop} {O : zO} {n : Nat} {l0 : Nat} {l1 : Int32} {M : zM} {q : Int32 × zM} (hcl : zCl Rg M) (hR_l0 : Rg l0) (h : F_Content_overMost O n l0 l1 M = some q) : zFr Rg M q.2 := g_Content_overMost_0 n l0 l1 M hcl hR_l0 h

set_option maxRecDepth 100000 in
set_option maxHeartbeats 4000000 in
theorem g_JArr_fill_BIIB_10 {Rg : Nat → Prop} {O : zO} {q : Unit × zM} : ∀ (n : Nat) (l0 : Nat) (l2 : Int32) (l3 : Int32) (l4 : Int32) (M : zM), zCl Rg M → Rg l0 → f_JArr_fill_BIIB_10 O n l0 l2 l3 l4 M = some q → zFr Rg M q.2 := by
  intro n
  induction n with
  | zero => intro l0 l2 l3 l4 M hcl hR_l0 h; rw [f_JArr_fill_BIIB_10] at h; cases h
  | succ n ih =>
    intro l0 l2 l3 l4 M hcl hR_l0 h
    rw [f_JArr_fill_BIIB_10] at h
    have g := zFr.rf hcl
    by_cases c8 : l2 ≤ l4
    · have h := zift h c8
      obtain rfl := z_res h
      exact g
    · have h := ziff h c8
      obtain ⟨h1, h⟩ := zif h
      obtain ⟨h2, h⟩ := zif h
      obtain ⟨M3, e4, h⟩ := zlet_ex h
      have g := g.i hR_l0 e4
      have h5 := k_i e4 h1
      obtain ⟨v6, e7, h⟩ := zlet_ex h
      exact g.tr (ih l0 l2 l3 v6 M3 g.cl hR_l0 h)
set_option maxRecDepth 100000 in
set_option maxHeartbeats 4000000 in
theorem g_JArr_fill_BIIB_0 {Rg : Nat → Prop} {O : zO} {q : Unit × zM} : ∀ (n : Nat) (l0 : Nat) (l1 : Int32) (l2 : Int32) (l3 : Int32) (M : zM), zCl Rg M → Rg l0 → f_JArr_fill_BIIB_0 O n l0 l1 l2 l3 M = some q → zFr Rg M q.2 := by
  intro n l0 l1 l2 l3 M hcl hR_l0 h
  rw [f_JArr_fill_BIIB_0] at h
  have g := zFr.rf hcl
  obtain ⟨h1, h⟩ := zif h
  obtain ⟨q2, c3, h⟩ := zbd h
  have g := g.tr (G_JArr_rangeCheck g.cl c3)
  exact g.tr (g_JArr_fill_BIIB_10 n l0 l2 l3 l1 q2.2 g.cl hR_l0 h)
theorem G_JArr_fill_BIIB {Rg : Nat → Prop} {O : zO} {n : Nat} {l0 : Nat} {l1 : Int32} {l2 : Int32} {l3 : Int32} {M : zM} {q : Unit × zM} (hcl : zCl Rg M) (hR_l0 : Rg l0) (h : F_JArr_fill_BIIB O n l0 l1 l2 l3 M = some q) : zFr Rg M q.2 := g_JArr_fill_BIIB_0 n l0 l1 l2 l3 M hcl hR_l0 h

set_option maxRecDepth 100000 in
set_option maxHeartbeats 4000000 in
theorem g_Row_putTimes_48 {Rg : Nat → Prop} {O : zO} {q : Unit × zM} : ∀ (n : Nat) (M : zM), zCl Rg M → f_Row_putTimes_48 O n M = some q → zFr Rg M q.2 := by
  intro n M hcl h
  rw [f_Row_putTimes_48] at h
  have g := zFr.rf hcl
  obtain rfl := z_res h
  exact g
set_option maxRecDepth 100000 in
set_option maxHeartbeats 4000000 in
theorem g_Row_putTimes_0 {Rg : Nat → Prop} {O : zO} {q : Unit × zM} : ∀ (n : Nat) (l0 : Nat) (l1 : Int32) (l2 : Int32) (M : zM), zCl Rg M → Rg l0 → f_Row_putTimes_0 O n l0 l1 l2 M = some q → zFr Rg M q.2 := by
  intro n l0 l1 l2 M hcl hR_l0 h
  rw [f_Row_putTimes_0] at h
  have g := zFr.rf hcl
  obtain ⟨h1, h⟩ := zif h
  have r1 : Rg (z_p M l0 0) := g.cl _ _ hR_l0
  obtain ⟨h2, h⟩ := zif h
  obtain ⟨q3, c4, h⟩ := zbd h
  have g := g.tr (G_JMath_min g.cl c4)
  by_cases c12 : q3.1 ≤ 0
  · have h := zift h c12
    exact g.tr (g_Row_putTimes_48 n q3.2 g.cl h)
  · have h := ziff h c12
    obtain ⟨h5, h⟩ := zif h
    have r2 : Rg (z_p q3.2 l0 0) := g.cl _ _ hR_l0
    obtain ⟨q6, c7, h⟩ := zbd h
    have g := g.tr (G_JArr_fill_BIIB g.cl r2 c7)
    obtain ⟨h8, h⟩ := zif h
    obtain ⟨M9, e10, h⟩ := zlet_ex h
    have g := g.i hR_l0 e10
    have h11 := k_i e10 h8
    exact g.tr (g_Row_putTimes_48 n M9 g.cl h)
theorem G_Row_putTimes {Rg : Nat → Prop} {O : zO} {n : Nat} {l0 : Nat} {l1 : Int32} {l2 : Int32} {M : zM} {q : Unit × zM} (hcl : zCl Rg M) (hR_l0 : Rg l0) (h : F_Row_putTimes O n l0 l1 l2 M = some q) : zFr Rg M q.2 := g_Row_putTimes_0 n l0 l1 l2 M hcl hR_l0 h
