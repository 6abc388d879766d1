set_option maxRecDepth 100000 in
set_option maxHeartbeats 4000000 in
theorem g_Mo_fourStreams_147 {Rg : Nat → Prop} {O : zO} {q : Int32 × zM} {k93 : Nat → Int32 → Int32 → Int32 → Int32 → Int32 → Int32 → zM → Option (Int32 × zM)} (hk93 : ∀ (l0 : Nat) (l1 : Int32) (l2 : Int32) (l3 : Int32) (l4 : Int32) (l5 : Int32) (l8 : Int32) (M : zM), zCl Rg M → Rg l0 → k93 l0 l1 l2 l3 l4 l5 l8 M = some q → zFr Rg M q.2) : ∀ (n : Nat) (l0 : Nat) (l1 : Int32) (l2 : Int32) (l3 : Int32) (l4 : Int32) (l5 : Int32) (l8 : Int32) (l9 : Int32) (s0 : Nat) (s1 : Int32) (s2 : Int32) (s3 : Int32) (M : zM), zCl Rg M → Rg l0 → Rg s0 → f_Mo_fourStreams_147 O k93 n l0 l1 l2 l3 l4 l5 l8 l9 s0 s1 s2 s3 M = some q → zFr Rg M q.2 := by
  intro n l0 l1 l2 l3 l4 l5 l8 l9 s0 s1 s2 s3 M hcl hR_l0 hR_s0 h
  rw [f_Mo_fourStreams_147] at h
  have g := zFr.rf hcl
  obtain ⟨h1, h⟩ := zif h
  obtain ⟨q2, c3, h⟩ := zbd h
  have g := g.tr (G_Mo_decode g.cl hR_s0 c3)
  by_cases c10 : q2.1 = 0
  · have h := zift h c10
    obtain ⟨h6, h⟩ := zif h
    obtain ⟨q7, c8, h⟩ := zbd h
    have g := g.tr (G_Mo_wrong g.cl hR_l0 c8)
    obtain ⟨h9, h⟩ := zif h
    obtain rfl := z_res h
    exact g
  · have h := ziff h c10
    obtain ⟨v4, e5, h⟩ := zlet_ex h
    exact g.tr (hk93 l0 l1 l2 l3 l4 l9 v4 q2.2 g.cl hR_l0 h)
set_option maxRecDepth 100000 in
set_option maxHeartbeats 4000000 in
theorem g_Mo_fourStreams_125 {Rg : Nat → Prop} {O : zO} {q : Int32 × zM} {k93 : Nat → Int32 → Int32 → Int32 → Int32 → Int32 → Int32 → zM → Option (Int32 × zM)} (hk93 : ∀ (l0 : Nat) (l1 : Int32) (l2 : Int32) (l3 : Int32) (l4 : Int32) (l5 : Int32) (l8 : Int32) (M : zM), zCl Rg M → Rg l0 → k93 l0 l1 l2 l3 l4 l5 l8 M = some q → zFr Rg M q.2) : ∀ (n : Nat) (l0 : Nat) (l1 : Int32) (l2 : Int32) (l3 : Int32) (l4 : Int32) (l5 : Int32) (l8 : Int32) (s0 : Int32) (M : zM), zCl Rg M → Rg l0 → f_Mo_fourStreams_125 O k93 n l0 l1 l2 l3 l4 l5 l8 s0 M = some q → zFr Rg M q.2 := by
  intro n l0 l1 l2 l3 l4 l5 l8 s0 M hcl hR_l0 h
  rw [f_Mo_fourStreams_125] at h
  have g := zFr.rf hcl
  by_cases c1 : l8 = (3 : Int32)
  · have h := zift h c1
    exact g.tr (g_Mo_fourStreams_147 hk93 n l0 l1 l2 l3 l4 l5 l8 s0 l0 l5 s0 (l2 - ((3 : Int32) * l3)) M g.cl hR_l0 hR_l0 h)
  · have h := ziff h c1
    exact g.tr (g_Mo_fourStreams_147 hk93 n l0 l1 l2 l3 l4 l5 l8 s0 l0 l5 s0 l3 M g.cl hR_l0 hR_l0 h)
set_option maxRecDepth 100000 in
set_option maxHeartbeats 4000000 in
theorem g_Mo_fourStreams_93 {Rg : Nat → Prop} {O : zO} {q : Int32 × zM} : ∀ (n : Nat) (l0 : Nat) (l1 : Int32) (l2 : Int32) (l3 : Int32) (l4 : Int32) (l5 : Int32) (l8 : Int32) (M : zM), zCl Rg M → Rg l0 → f_Mo_fourStreams_93 O n l0 l1 l2 l3 l4 l5 l8 M = some q → zFr Rg M q.2 := by
  intro n
  induction n with
  | zero => intro l0 l1 l2 l3 l4 l5 l8 M hcl hR_l0 h; rw [f_Mo_fourStreams_93] at h; cases h
  | succ n ih =>
    intro l0 l1 l2 l3 l4 l5 l8 M hcl hR_l0 h
    rw [f_Mo_fourStreams_93] at h
    have g := zFr.rf hcl
    by_cases c5 : (4 : Int32) ≤ l8
    · have h := zift h c5
      obtain rfl := z_res h
      exact g
    · have h := ziff h c5
      by_cases c4 : l8 = (3 : Int32)
      · have h := zift h c4
        exact g.tr (g_Mo_fourStreams_125 ih n l0 l1 l2 l3 l4 l5 l8 l1 M g.cl hR_l0 h)
      · have h := ziff h c4
        obtain ⟨h1, h⟩ := zif h
        obtain ⟨q2, c3, h⟩ := zbd h
        have g := g.tr (G_Mo_number g.cl hR_l0 c3)
        exact g.tr (g_Mo_fourStreams_125 ih n l0 l1 l2 l3 l4 l5 l8 (l5 + q2.1.toInt32) q2.2 g.cl hR_l0 h)
set_option maxRecDepth 100000 in
set_option maxHeartbeats 4000000 in
theorem g_Mo_fourStreams_0 {Rg : Nat → Prop} {O : zO} {q : Int32 × zM} : ∀ (n : Nat) (l0 : Nat) (l1 : Int32) (l2 : Int32) (l3 : Int32) (M : zM), zCl Rg M → Rg l0 → f_Mo_fourStreams_0 O n l0 l1 l2 l3 M = some q → zFr Rg M q.2 := by
  intro n l0 l1 l2 l3 M hcl hR_l0 h
  rw [f_Mo_fourStreams_0] at h
  have g := zFr.rf hcl
  obtain ⟨h1, h⟩ := zif h
  obtain ⟨v2, e3, h⟩ := zlet_ex h
  by_cases c24 : (6 : Int32) ≤ (l1 - (z_i M l0 28))
  · have h := zift h c24
    obtain ⟨v4, e5, h⟩ := zlet_ex h
    obtain ⟨q6, c7, h⟩ := zbd h
    have g := g.tr (G_Mo_number g.cl hR_l0 c7)
    obtain ⟨h8, h⟩ := zif h
    obtain ⟨q9, c10, h⟩ := zbd h
    have g := g.tr (G_Mo_number g.cl hR_l0 c10)
    obtain ⟨h11, h⟩ := zif h
    obtain ⟨q12, c13, h⟩ := zbd h
    have g := g.tr (G_Mo_number g.cl hR_l0 c13)
    obtain ⟨v14, e15, h⟩ := zlet_ex h
    by_cases c20 : (lg_cmp v14 (l1 - v4).toInt64) ≤ 0
    · have h := zift h c20
      exact g.tr (g_Mo_fourStreams_93 n l0 l1 l2 l3 v2 v4 (0 : Int32) q12.2 g.cl hR_l0 h)
    · have h := ziff h c20
      obtain ⟨h16, h⟩ := zif h
      obtain ⟨q17, c18, h⟩ := zbd h
      have g := g.tr (G_Mo_wrong g.cl hR_l0 c18)
      obtain ⟨h19, h⟩ := zif h
      obtain rfl := z_res h
      exact g
  · have h := ziff h c24
    obtain ⟨q21, c22, h⟩ := zbd h
    have g := g.tr (G_Mo_wrong g.cl hR_l0 c22)
    obtain ⟨h23, h⟩ := zif h
    obtain rfl := z_res h
    exact g
theorem G_Mo_fourStreams {Rg : Nat → Prop} {O : zO} {n : Nat} {l0 : Nat} {l1 : Int32} {l2 : Int32} {l3 : Int32} {M : zM} {q : Int32 × zM} (hcl : zCl Rg M) (hR_l0 : Rg l0) (h : F_Mo_fourStreams O n l0 l1 l2 l3 M = some q) : zFr Rg M q.2 := g_Mo_fourStreams_0 n l0 l1 l2 l3 M hcl hR_l0 h

set_option maxRecDepth 100000 in
set_option maxHeartbeats 4000000 in
theorem g_Mo_readLiterals_391 {Rg : Nat → Prop} {O : zO} {q : Int32 × zM} : ∀ (n : Nat) (l0 : Nat) (l2 : Int32) (M : zM), zCl Rg M → Rg l0 → f_Mo_readLiterals_391 O n l0 l2 M = some q → zFr Rg M q.2 := by
  intro n l0 l2 M hcl hR_l0 h
  rw [f_Mo_readLiterals_391] at h
  have g := zFr.rf hcl
  obtain ⟨h1, h⟩ := zif h
  obtain ⟨q2, c3, h⟩ := zbd h
  have g := g.tr (G_Mo_wrong g.cl hR_l0 c3)
  obtain ⟨h4, h⟩ := zif h
  obtain rfl := z_res h
  exact g
set_option maxRecDepth 100000 in
set_option maxHeartbeats 4000000 in
theorem g_Mo_readLiterals_532 {Rg : Nat → Prop} {O : zO} {q : Int32 × zM} : ∀ (n : Nat) (l0 : Nat) (l12 : Int32) (M : zM), zCl Rg M → Rg l0 → f_Mo_readLiterals_532 O n l0 l12 M = some q → zFr Rg M q.2 := by
  intro n l0 l12 M hcl hR_l0 h
  rw [f_Mo_readLiterals_532] at h
  have g := zFr.rf hcl
  obtain ⟨h1, h⟩ := zif h
  obtain ⟨M2, e3, h⟩ := zlet_ex h
  have g := g.i hR_l0 e3
  have h4 := k_i e3 h1
  obtain rfl := z_res h
  exact g
set_option maxRecDepth 100000 in
set_option maxHeartbeats 4000000 in
theorem g_Mo_readLiterals_486 {Rg : Nat → Prop} {O : zO} {q : Int32 × zM} : ∀ (n : Nat) (l0 : Nat) (l4 : Int32) (l9 : Int32) (l11 : Int32) (l12 : Int32) (M : zM), zCl Rg M → Rg l0 → f_Mo_readLiterals_486 O n l0 l4 l9 l11 l12 M = some q → zFr Rg M q.2 := by
  intro n l0 l4 l9 l11 l12 M hcl hR_l0 h
  rw [f_Mo_readLiterals_486] at h
  have g := zFr.rf hcl
  by_cases c13 : l4 = 0
  · have h := zift h c13
    obtain ⟨h5, h⟩ := zif h
    obtain ⟨q6, c7, h⟩ := zbd h
    have g := g.tr (G_Mo_decode g.cl hR_l0 c7)
    by_cases c12 : q6.1 = 0
    · have h := zift h c12
      obtain ⟨h8, h⟩ := zif h
      obtain ⟨q9, c10, h⟩ := zbd h
      have g := g.tr (G_Mo_wrong g.cl hR_l0 c10)
      obtain ⟨h11, h⟩ := zif h
      obtain rfl := z_res h
      exact g
    · have h := ziff h c12
      exact g.tr (g_Mo_readLiterals_532 n l0 l12 q6.2 g.cl hR_l0 h)
  · have h := ziff h c13
    obtain ⟨h1, h⟩ := zif h
    obtain ⟨q2, c3, h⟩ := zbd h
    have g := g.tr (G_Mo_fourStreams g.cl hR_l0 c3)
    by_cases c4 : q2.1 = 0
    · have h := zift h c4
      obtain rfl := z_res h
      exact g
    · have h := ziff h c4
      exact g.tr (g_Mo_readLiterals_532 n l0 l12 q2.2 g.cl hR_l0 h)
set_option maxRecDepth 100000 in
set_option maxHeartbeats 4000000 in
theorem g_Mo_readLiterals_419 {Rg : Nat → Prop} {O : zO} {q : Int32 × zM} : ∀ (n : Nat) (l0 : Nat) (l1 : Int32) (l3 : Int32) (l4 : Int32) (l9 : Int32) (l10 : Int32) (l11 : Int32) (M : zM), zCl Rg M → Rg l0 → f_Mo_readLiterals_419 O n l0 l1 l3 l4 l9 l10 l11 M = some q → zFr Rg M q.2 := by
  intro n l0 l1 l3 l4 l9 l10 l11 M hcl hR_l0 h
  rw [f_Mo_readLiterals_419] at h
  have g := zFr.rf hcl
  obtain ⟨h1, h⟩ := zif h
  by_cases c19 : l10 ≤ (l1 - (z_i M l0 28))
  · have h := zift h c19
    obtain ⟨v2, e3, h⟩ := zlet_ex h
    by_cases c15 : l3 = (2 : Int32)
    · have h := zift h c15
      obtain ⟨q4, c5, h⟩ := zbd h
      have g := g.tr (G_Mo_describe g.cl hR_l0 c5)
      by_cases c14 : 0 ≤ q4.1
      · have h := zift h c14
        obtain ⟨h6, h⟩ := zif h
        obtain ⟨M7, e8, h⟩ := zlet_ex h
        have g := g.i hR_l0 e8
        have h9 := k_i e8 h6
        exact g.tr (g_Mo_readLiterals_486 n l0 l4 l9 l11 v2 M7 g.cl hR_l0 h)
      · have h := ziff h c14
        obtain ⟨h10, h⟩ := zif h
        obtain ⟨q11, c12, h⟩ := zbd h
        have g := g.tr (G_Mo_wrong g.cl hR_l0 c12)
        obtain ⟨h13, h⟩ := zif h
        obtain rfl := z_res h
        exact g
    · have h := ziff h c15
      exact g.tr (g_Mo_readLiterals_486 n l0 l4 l9 l11 v2 M g.cl hR_l0 h)
  · have h := ziff h c19
    obtain ⟨q16, c17, h⟩ := zbd h
    have g := g.tr (G_Mo_wrong g.cl hR_l0 c17)
    obtain ⟨h18, h⟩ := zif h
    obtain rfl := z_res h
    exact g
set_option maxRecDepth 100000 in
set_option maxHeartbeats 4000000 in
theorem g_Mo_readLiterals_399 {Rg : Nat → Prop} {O : zO} {q : Int32 × zM} : ∀ (n : Nat) (l0 : Nat) (l1 : Int32) (l2 : Int32) (l3 : Int32) (l4 : Int32) (l9 : Int32) (l10 : Int32) (l11 : Int32) (M : zM), zCl Rg M → Rg l0 → f_Mo_readLiterals_399 O n l0 l1 l2 l3 l4 l9 l10 l11 M = some q → zFr Rg M q.2 := by
  intro n l0 l1 l2 l3 l4 l9 l10 l11 M hcl hR_l0 h
  rw [f_Mo_readLiterals_399] at h
  have g := zFr.rf hcl
  by_cases c6 : l3 = (3 : Int32)
  · have h := zift h c6
    obtain ⟨h1, h⟩ := zif h
    by_cases c5 : (z_i M l0 13) = 0
    · have h := zift h c5
      obtain ⟨q2, c3, h⟩ := zbd h
      have g := g.tr (G_Mo_wrong g.cl hR_l0 c3)
      obtain ⟨h4, h⟩ := zif h
      obtain rfl := z_res h
      exact g
    · have h := ziff h c5
      exact g.tr (g_Mo_readLiterals_419 n l0 l1 l3 l4 l9 l10 l11 M g.cl hR_l0 h)
  · have h := ziff h c6
    exact g.tr (g_Mo_readLiterals_419 n l0 l1 l3 l4 l9 l10 l11 M g.cl hR_l0 h)
set_option maxRecDepth 100000 in
set_option maxHeartbeats 4000000 in
theorem g_Mo_readLiterals_287 {Rg : Nat → Prop} {O : zO} {q : Int32 × zM} : ∀ (n : Nat) (l0 : Nat) (l1 : Int32) (l2 : Int32) (l3 : Int32) (l4 : Int32) (l5 : Int32) (s0 : Int32) (M : zM), zCl Rg M → Rg l0 → f_Mo_readLiterals_287 O n l0 l1 l2 l3 l4 l5 s0 M = some q → zFr Rg M q.2 := by
  intro n l0 l1 l2 l3 l4 l5 s0 M hcl hR_l0 h
  rw [f_Mo_readLiterals_287] at h
  have g := zFr.rf hcl
  obtain ⟨h1, h⟩ := zif h
  by_cases c22 : l5 ≤ (l1 - (z_i M l0 28))
  · have h := zift h c22
    obtain ⟨q2, c3, h⟩ := zbd h
    have g := g.tr (G_Mo_number g.cl hR_l0 c3)
    obtain ⟨v4, e5, h⟩ := zlet_ex h
    obtain ⟨v6, e7, h⟩ := zlet_ex h
    obtain ⟨v8, e9, h⟩ := zlet_ex h
    obtain ⟨h10, h⟩ := zif h
    obtain ⟨M11, e12, h⟩ := zlet_ex h
    have g := g.i hR_l0 e12
    have h13 := k_i e12 h10
    obtain ⟨v14, e15, h⟩ := zlet_ex h
    by_cases c18 : (z_i M11 l0 32) < v6
    · have h := zift h c18
      exact g.tr (g_Mo_readLiterals_391 n l0 l2 M11 g.cl hR_l0 h)
    · have h := ziff h c18
      by_cases c17 : l4 ≤ 0
      · have h := zift h c17
        exact g.tr (g_Mo_readLiterals_399 n l0 l1 l2 l3 l4 v6 v8 v14 M11 g.cl hR_l0 h)
      · have h := ziff h c17
        by_cases c16 : ((3 : Int32) * v14) ≤ v6
        · have h := zift h c16
          exact g.tr (g_Mo_readLiterals_399 n l0 l1 l2 l3 l4 v6 v8 v14 M11 g.cl hR_l0 h)
        · have h := ziff h c16
          exact g.tr (g_Mo_readLiterals_391 n l0 l2 M11 g.cl hR_l0 h)
  · have h := ziff h c22
    obtain ⟨q19, c20, h⟩ := zbd h
    have g := g.tr (G_Mo_wrong g.cl hR_l0 c20)
    obtain ⟨h21, h⟩ := zif h
    obtain rfl := z_res h
    exact g
set_option maxRecDepth 100000 in
set_option maxHeartbeats 4000000 in
theorem g_Mo_readLiterals_261 {Rg : Nat → Prop} {O : zO} {q : Int32 × zM} : ∀ (n : Nat) (l0 : Nat) (l1 : Int32) (l2 : Int32) (l3 : Int32) (l4 : Int32) (s0 : Int32) (M : zM), zCl Rg M → Rg l0 → f_Mo_readLiterals_261 O n l0 l1 l2 l3 l4 s0 M = some q → zFr Rg M q.2 := by
  intro n l0 l1 l2 l3 l4 s0 M hcl hR_l0 h
  rw [f_Mo_readLiterals_261] at h
  have g := zFr.rf hcl
  by_cases c2 : (2 : Int32) ≤ l4
  · have h := zift h c2
    by_cases c1 : l4 = (2 : Int32)
    · have h := zift h c1
      exact g.tr (g_Mo_readLiterals_287 n l0 l1 l2 l3 l4 s0 (14 : Int32) M g.cl hR_l0 h)
    · have h := ziff h c1
      exact g.tr (g_Mo_readLiterals_287 n l0 l1 l2 l3 l4 s0 (18 : Int32) M g.cl hR_l0 h)
  · have h := ziff h c2
    exact g.tr (g_Mo_readLiterals_287 n l0 l1 l2 l3 l4 s0 (10 : Int32) M g.cl hR_l0 h)
set_option maxRecDepth 100000 in
set_option maxHeartbeats 4000000 in
theorem g_Mo_readLiterals_220 {Rg : Nat → Prop} {O : zO} {q : Int32 × zM} {k185 : Nat → Int32 → Int32 → Int32 → Int32 → zM → Option (Int32 × zM)} (hk185 : ∀ (l0 : Nat) (l3 : Int32) (l6 : Int32) (l7 : Int32) (l8 : Int32) (M : zM), zCl Rg M → Rg l0 → k185 l0 l3 l6 l7 l8 M = some q → zFr Rg M q.2) : ∀ (n : Nat) (l0 : Nat) (l3 : Int32) (l6 : Int32) (l7 : Int32) (l8 : Int32) (s0 : Nat) (s1 : Int32) (s2 : Nat) (s3 : Int32) (M : zM), zCl Rg M → Rg l0 → Rg s0 → Rg s2 → f_Mo_readLiterals_220 O k185 n l0 l3 l6 l7 l8 s0 s1 s2 s3 M = some q → zFr Rg M q.2 := by
  intro n l0 l3 l6 l7 l8 s0 s1 s2 s3 M hcl hR_l0 hR_s0 hR_s2 h
  rw [f_Mo_readLiterals_220] at h
  have g := zFr.rf hcl
  obtain ⟨h1, h⟩ := zif h
  obtain ⟨h2, h⟩ := zif h
  obtain ⟨h3, h⟩ := zif h
  obtain ⟨h4, h⟩ := zif h
  obtain ⟨M5, e6, h⟩ := zlet_ex h
  have g := g.i hR_s0 e6
  have h7 := k_i e6 h1
  have h8 := k_i e6 h3
  obtain ⟨v9, e10, h⟩ := zlet_ex h
  exact g.tr (hk185 l0 l3 l6 l7 v9 M5 g.cl hR_l0 h)
set_option maxRecDepth 100000 in
set_option maxHeartbeats 4000000 in
theorem g_Mo_readLiterals_185 {Rg : Nat → Prop} {O : zO} {q : Int32 × zM} : ∀ (n : Nat) (l0 : Nat) (l3 : Int32) (l6 : Int32) (l7 : Int32) (l8 : Int32) (M : zM), zCl Rg M → Rg l0 → f_Mo_readLiterals_185 O n l0 l3 l6 l7 l8 M = some q → zFr Rg M q.2 := by
  intro n
  induction n with
  | zero => intro l0 l3 l6 l7 l8 M hcl hR_l0 h; rw [f_Mo_readLiterals_185] at h; cases h
  | succ n ih =>
    intro l0 l3 l6 l7 l8 M hcl hR_l0 h
    rw [f_Mo_readLiterals_185] at h
    have g := zFr.rf hcl
    by_cases c10 : l6 ≤ l8
    · have h := zift h c10
      obtain ⟨h1, h⟩ := zif h
      obtain ⟨M2, e3, h⟩ := zlet_ex h
      have g := g.i hR_l0 e3
      have h4 := k_i e3 h1
      obtain ⟨M5, e6, h⟩ := zlet_ex h
      have g := g.i hR_l0 e6
      have h7 := k_i e6 h4
      obtain rfl := z_res h
      exact g
    · have h := ziff h c10
      obtain ⟨h8, h⟩ := zif h
      have r3 : Rg (z_p M l0 41) := g.cl _ _ hR_l0
      have r4 : Rg (z_p M l0 0) := g.cl _ _ hR_l0
      by_cases c9 : l3 = 0
      · have h := zift h c9
        exact g.tr (g_Mo_readLiterals_220 ih n l0 l3 l6 l7 l8 (z_p M l0 41) l8 (z_p M l0 0) ((z_i M l0 28) + l8) M g.cl hR_l0 r3 r4 h)
      · have h := ziff h c9
        exact g.tr (g_Mo_readLiterals_220 ih n l0 l3 l6 l7 l8 (z_p M l0 41) l8 (z_p M l0 0) (z_i M l0 28) M g.cl hR_l0 r3 r4 h)
set_option maxRecDepth 100000 in
set_option maxHeartbeats 4000000 in
theorem g_Mo_readLiterals_161 {Rg : Nat → Prop} {O : zO} {q : Int32 × zM} : ∀ (n : Nat) (l0 : Nat) (l1 : Int32) (l3 : Int32) (l6 : Int32) (s0 : Int32) (M : zM), zCl Rg M → Rg l0 → f_Mo_readLiterals_161 O n l0 l1 l3 l6 s0 M = some q → zFr Rg M q.2 := by
  intro n l0 l1 l3 l6 s0 M hcl hR_l0 h
  rw [f_Mo_readLiterals_161] at h
  have g := zFr.rf hcl
  obtain ⟨h1, h⟩ := zif h
  by_cases c5 : s0 ≤ (l1 - (z_i M l0 28))
  · have h := zift h c5
    exact g.tr (g_Mo_readLiterals_185 n l0 l3 l6 s0 (0 : Int32) M g.cl hR_l0 h)
  · have h := ziff h c5
    obtain ⟨q2, c3, h⟩ := zbd h
    have g := g.tr (G_Mo_wrong g.cl hR_l0 c3)
    obtain ⟨h4, h⟩ := zif h
    obtain rfl := z_res h
    exact g
set_option maxRecDepth 100000 in
set_option maxHeartbeats 4000000 in
theorem g_Mo_readLiterals_120 {Rg : Nat → Prop} {O : zO} {q : Int32 × zM} : ∀ (n : Nat) (l0 : Nat) (l1 : Int32) (l2 : Int32) (l3 : Int32) (l5 : Int32) (s0 : Int32) (s1 : Int32) (M : zM), zCl Rg M → Rg l0 → f_Mo_readLiterals_120 O n l0 l1 l2 l3 l5 s0 s1 M = some q → zFr Rg M q.2 := by
  intro n l0 l1 l2 l3 l5 s0 s1 M hcl hR_l0 h
  rw [f_Mo_readLiterals_120] at h
  have g := zFr.rf hcl
  obtain ⟨h1, h⟩ := zif h
  obtain ⟨v2, e3, h⟩ := zlet_ex h
  obtain ⟨h4, h⟩ := zif h
  obtain ⟨M5, e6, h⟩ := zlet_ex h
  have g := g.i hR_l0 e6
  have h7 := k_i e6 h4
  by_cases c12 : v2 ≤ (z_i M5 l0 32)
  · have h := zift h c12
    by_cases c8 : l3 = 0
    · have h := zift h c8
      exact g.tr (g_Mo_readLiterals_161 n l0 l1 l3 v2 v2 M5 g.cl hR_l0 h)
    · have h := ziff h c8
      exact g.tr (g_Mo_readLiterals_161 n l0 l1 l3 v2 (1 : Int32) M5 g.cl hR_l0 h)
  · have h := ziff h c12
    obtain ⟨q9, c10, h⟩ := zbd h
    have g := g.tr (G_Mo_wrong g.cl hR_l0 c10)
    obtain ⟨h11, h⟩ := zif h
    obtain rfl := z_res h
    exact g
set_option maxRecDepth 100000 in
set_option maxHeartbeats 4000000 in
theorem g_Mo_readLiterals_75 {Rg : Nat → Prop} {O : zO} {q : Int32 × zM} : ∀ (n : Nat) (l0 : Nat) (l1 : Int32) (l2 : Int32) (l3 : Int32) (s0 : Int32) (M : zM), zCl Rg M → Rg l0 → f_Mo_readLiterals_75 O n l0 l1 l2 l3 s0 M = some q → zFr Rg M q.2 := by
  intro n l0 l1 l2 l3 s0 M hcl hR_l0 h
  rw [f_Mo_readLiterals_75] at h
  have g := zFr.rf hcl
  obtain ⟨h1, h⟩ := zif h
  by_cases c8 : s0 ≤ (l1 - (z_i M l0 28))
  · have h := zift h c8
    obtain ⟨q2, c3, h⟩ := zbd h
    have g := g.tr (G_Mo_number g.cl hR_l0 c3)
    by_cases c4 : s0 = (1 : Int32)
    · have h := zift h c4
      exact g.tr (g_Mo_readLiterals_120 n l0 l1 l2 l3 s0 q2.1.toInt32 (8 : Int32) q2.2 g.cl hR_l0 h)
    · have h := ziff h c4
      exact g.tr (g_Mo_readLiterals_120 n l0 l1 l2 l3 s0 q2.1.toInt32 (16 : Int32) q2.2 g.cl hR_l0 h)
  · have h := ziff h c8
    obtain ⟨q5, c6, h⟩ := zbd h
    have g := g.tr (G_Mo_wrong g.cl hR_l0 c6)
    obtain ⟨h7, h⟩ := zif h
    obtain rfl := z_res h
    exact g
set_option maxRecDepth 100000 in
set_option maxHeartbeats 4000000 in
theorem g_Mo_readLiterals_0 {Rg : Nat → Prop} {O : zO} {q : Int32 × zM} : ∀ (n : Nat) (l0 : Nat) (l1 : Int32) (M : zM), zCl Rg M → Rg l0 → f_Mo_readLiterals_0 O n l0 l1 M = some q → zFr Rg M q.2 := by
  intro n l0 l1 M hcl hR_l0 h
  rw [f_Mo_readLiterals_0] at h
  have g := zFr.rf hcl
  obtain ⟨h1, h⟩ := zif h
  obtain ⟨v2, e3, h⟩ := zlet_ex h
  by_cases c18 : (z_i M l0 28) < l1
  · have h := zift h c18
    have r1 : Rg (z_p M l0 0) := g.cl _ _ hR_l0
    obtain ⟨h4, h⟩ := zif h
    obtain ⟨h5, h⟩ := zif h
    obtain ⟨v6, e7, h⟩ := zlet_ex h
    have r2 : Rg (z_p M l0 0) := g.cl _ _ hR_l0
    obtain ⟨h8, h⟩ := zif h
    obtain ⟨v9, e10, h⟩ := zlet_ex h
    by_cases c14 : (2 : Int32) ≤ v6
    · have h := zift h c14
      by_cases c11 : (2 : Int32) ≤ v9
      · have h := zift h c11
        exact g.tr (g_Mo_readLiterals_261 n l0 l1 v2 v6 v9 (v9 + (2 : Int32)) M g.cl hR_l0 h)
      · have h := ziff h c11
        exact g.tr (g_Mo_readLiterals_261 n l0 l1 v2 v6 v9 (3 : Int32) M g.cl hR_l0 h)
    · have h := ziff h c14
      by_cases c13 : (v9 - v9 / (2 : Int32) * (2 : Int32)) = 0
      · have h := zift h c13
        exact g.tr (g_Mo_readLiterals_75 n l0 l1 v2 v6 (1 : Int32) M g.cl hR_l0 h)
      · have h := ziff h c13
        by_cases c12 : v9 = (1 : Int32)
        · have h := zift h c12
          exact g.tr (g_Mo_readLiterals_75 n l0 l1 v2 v6 (2 : Int32) M g.cl hR_l0 h)
        · have h := ziff h c12
          exact g.tr (g_Mo_readLiterals_75 n l0 l1 v2 v6 (3 : Int32) M g.cl hR_l0 h)
  · have h := ziff h c18
    obtain ⟨q15, c16, h⟩ := zbd h
    have g := g.tr (G_Mo_wrong g.cl hR_l0 c16)
    obtain ⟨h17, h⟩ := zif h
    obtain rfl := z_res h
    exact g
theorem G_Mo_readLiterals {Rg : Nat → Prop} {O : zO} {n : Nat} {l0 : Nat} {l1 : Int32} {M : zM} {q : Int32 × zM} (hcl : zCl Rg M) (hR_l0 : Rg l0) (h : F_Mo_readLiterals O n l0 l1 M = some q) : zFr Rg M q.2 := g_Mo_readLiterals_0 n l0 l1 M hcl hR_l0 h

set_option maxRecDepth 100000 in
set_option maxHeartbeats 4000000 in
theorem g_Mo_run_3 {Rg : Nat → Prop} {O : zO} {q : Int32 × zM} : ∀ (n : Nat) (l0 : Nat) (l1 : Int32) (l2 : Int32) (l3 : Int32) (l4 : Int32) (l5 : Int32) (M : zM), zCl Rg M → Rg l0 → f_Mo_run_3 O n l0 l1 l2 l3 l4 l5 M = some q → zFr Rg M q.2 := by
  intro n
  induction n with
  | zero => intro l0 l1 l2 l3 l4 l5 M hcl hR_l0 h; rw [f_Mo_run_3] at h; cases h
  | succ n ih =>
    intro l0 l1 l2 l3 l4 l5 M hcl hR_l0 h
    rw [f_Mo_run_3] at h
    have g := zFr.rf hcl
    by_cases c10 : l3 ≤ l5
    · have h := zift h c10
      obtain rfl := z_res h
      exact g
    · have h := ziff h c10
      obtain ⟨h1, h⟩ := zif h
      have r1 : Rg (z_p M l0 15) := g.cl _ _ hR_l0
      obtain ⟨h2, h⟩ := zif h
      obtain ⟨h3, h⟩ := zif h
      obtain ⟨M4, e5, h⟩ := zlet_ex h
      have g := g.i r1 e5
      have h6 := k_i e5 h1
      have h7 := k_i e5 h2
      obtain ⟨v8, e9, h⟩ := zlet_ex h
      exact g.tr (ih l0 l1 l2 l3 l4 v8 M4 g.cl hR_l0 h)
set_option maxRecDepth 100000 in
set_option maxHeartbeats 4000000 in
theorem g_Mo_run_0 {Rg : Nat → Prop} {O : zO} {q : Int32 × zM} : ∀ (n : Nat) (l0 : Nat) (l1 : Int32) (l2 : Int32) (l3 : Int32) (l4 : Int32) (M : zM), zCl Rg M → Rg l0 → f_Mo_run_0 O n l0 l1 l2 l3 l4 M = some q → zFr Rg M q.2 := by
  intro n l0 l1 l2 l3 l4 M hcl hR_l0 h
  rw [f_Mo_run_0] at h
  have g := zFr.rf hcl
  exact g.tr (g_Mo_run_3 n l0 l1 l2 l3 l4 (0 : Int32) M g.cl hR_l0 h)
theorem G_Mo_run {Rg : Nat → Prop} {O : zO} {n : Nat} {l0 : Nat} {l1 : Int32} {l2 : Int32} {l3 : Int32} {l4 : Int32} {M : zM} {q : Int32 × zM} (hcl : zCl Rg M) (hR_l0 : Rg l0) (h : F_Mo_run O n l0 l1 l2 l3 l4 M = some q) : zFr Rg M q.2 := g_Mo_run_0 n l0 l1 l2 l3 l4 M hcl hR_l0 h

set_option maxRecDepth 100000 in
set_option maxHeartbeats 4000000 in
theorem g_Mo_know_193 {Rg : Nat → Prop} {O : zO} {q : Unit × zM} : ∀ (n : Nat) (l0 : Nat) (l1 : Int32) (s0 : Nat) (s1 : Int32) (s2 : Int32) (M : zM), zCl Rg M → Rg l0 → Rg s0 → f_Mo_know_193 O n l0 l1 s0 s1 s2 M = some q → zFr Rg M q.2 := by
  intro n l0 l1 s0 s1 s2 M hcl hR_l0 hR_s0 h
  rw [f_Mo_know_193] at h
  have g := zFr.rf hcl
  obtain ⟨h1, h⟩ := zif h
  obtain ⟨h2, h⟩ := zif h
  obtain ⟨M3, e4, h⟩ := zlet_ex h
  have g := g.i hR_s0 e4
  have h5 := k_i e4 h1
  obtain ⟨h6, h⟩ := zif h
  obtain ⟨q7, c8, h⟩ := zbd h
  have g := g.tr (G_Mo_layTable g.cl hR_l0 c8)
  obtain rfl := z_res h
  exact g
set_option maxRecDepth 100000 in
set_option maxHeartbeats 4000000 in
theorem g_Mo_know_177 {Rg : Nat → Prop} {O : zO} {q : Unit × zM} : ∀ (n : Nat) (l0 : Nat) (l1 : Int32) (M : zM), zCl Rg M → Rg l0 → f_Mo_know_177 O n l0 l1 M = some q → zFr Rg M q.2 := by
  intro n l0 l1 M hcl hR_l0 h
  rw [f_Mo_know_177] at h
  have g := zFr.rf hcl
  obtain ⟨h1, h⟩ := zif h
  have r1 : Rg (z_p M l0 16) := g.cl _ _ hR_l0
  by_cases c2 : l1 = (1 : Int32)
  · have h := zift h c2
    exact g.tr (g_Mo_know_193 n l0 l1 (z_p M l0 16) l1 (5 : Int32) M g.cl hR_l0 r1 h)
  · have h := ziff h c2
    exact g.tr (g_Mo_know_193 n l0 l1 (z_p M l0 16) l1 (6 : Int32) M g.cl hR_l0 r1 h)
set_option maxRecDepth 100000 in
set_option maxHeartbeats 4000000 in
theorem g_Mo_know_0 {Rg : Nat → Prop} {O : zO} {q : Unit × zM} : ∀ (n : Nat) (l0 : Nat) (l1 : Int32) (M : zM), zCl Rg M → Rg l0 → f_Mo_know_0 O n l0 l1 M = some q → zFr Rg M q.2 := by
  intro n l0 l1 M hcl hR_l0 h
  rw [f_Mo_know_0] at h
  have g := zFr.rf hcl
  obtain ⟨h1, h⟩ := zif h
  obtain ⟨q2, c3, h⟩ := zbd h
  have g := g.tr (G_Mo_run g.cl hR_l0 c3)
  by_cases c62 : l1 = 0
  · have h := zift h c62
    obtain ⟨h35, h⟩ := zif h
    obtain ⟨q36, c37, h⟩ := zbd h
    have g := g.tr (G_Mo_run g.cl hR_l0 c37)
    obtain ⟨h38, h⟩ := zif h
    obtain ⟨q39, c40, h⟩ := zbd h
    have g := g.tr (G_Mo_run g.cl hR_l0 c40)
    obtain ⟨h41, h⟩ := zif h
    obtain ⟨q42, c43, h⟩ := zbd h
    have g := g.tr (G_Mo_run g.cl hR_l0 c43)
    obtain ⟨h44, h⟩ := zif h
    obtain ⟨q45, c46, h⟩ := zbd h
    have g := g.tr (G_Mo_run g.cl hR_l0 c46)
    obtain ⟨h47, h⟩ := zif h
    obtain ⟨q48, c49, h⟩ := zbd h
    have g := g.tr (G_Mo_run g.cl hR_l0 c49)
    obtain ⟨h50, h⟩ := zif h
    obtain ⟨q51, c52, h⟩ := zbd h
    have g := g.tr (G_Mo_run g.cl hR_l0 c52)
    obtain ⟨h53, h⟩ := zif h
    obtain ⟨q54, c55, h⟩ := zbd h
    have g := g.tr (G_Mo_run g.cl hR_l0 c55)
    obtain ⟨h56, h⟩ := zif h
    obtain ⟨q57, c58, h⟩ := zbd h
    have g := g.tr (G_Mo_run g.cl hR_l0 c58)
    obtain ⟨h59, h⟩ := zif h
    obtain ⟨q60, c61, h⟩ := zbd h
    have g := g.tr (G_Mo_run g.cl hR_l0 c61)
    exact g.tr (g_Mo_know_177 n l0 l1 q60.2 g.cl hR_l0 h)
  · have h := ziff h c62
    by_cases c34 : l1 = (1 : Int32)
    · have h := zift h c34
      obtain ⟨h22, h⟩ := zif h
      obtain ⟨q23, c24, h⟩ := zbd h
      have g := g.tr (G_Mo_run g.cl hR_l0 c24)
      obtain ⟨h25, h⟩ := zif h
      obtain ⟨q26, c27, h⟩ := zbd h
      have g := g.tr (G_Mo_run g.cl hR_l0 c27)
      obtain ⟨h28, h⟩ := zif h
      obtain ⟨q29, c30, h⟩ := zbd h
      have g := g.tr (G_Mo_run g.cl hR_l0 c30)
      obtain ⟨h31, h⟩ := zif h
      obtain ⟨q32, c33, h⟩ := zbd h
      have g := g.tr (G_Mo_run g.cl hR_l0 c33)
      exact g.tr (g_Mo_know_177 n l0 l1 q32.2 g.cl hR_l0 h)
    · have h := ziff h c34
      obtain ⟨h4, h⟩ := zif h
      obtain ⟨q5, c6, h⟩ := zbd h
      have g := g.tr (G_Mo_run g.cl hR_l0 c6)
      obtain ⟨h7, h⟩ := zif h
      obtain ⟨q8, c9, h⟩ := zbd h
      have g := g.tr (G_Mo_run g.cl hR_l0 c9)
      obtain ⟨h10, h⟩ := zif h
      obtain ⟨q11, c12, h⟩ := zbd h
      have g := g.tr (G_Mo_run g.cl hR_l0 c12)
      obtain ⟨h13, h⟩ := zif h
      obtain ⟨q14, c15, h⟩ := zbd h
      have g := g.tr (G_Mo_run g.cl hR_l0 c15)
      obtain ⟨h16, h⟩ := zif h
      obtain ⟨q17, c18, h⟩ := zbd h
      have g := g.tr (G_Mo_run g.cl hR_l0 c18)
      obtain ⟨h19, h⟩ := zif h
      obtain ⟨q20, c21, h⟩ := zbd h
      have g := g.tr (G_Mo_run g.cl hR_l0 c21)
      exact g.tr (g_Mo_know_177 n l0 l1 q20.2 g.cl hR_l0 h)
theorem G_Mo_know {Rg : Nat → Prop} {O : zO} {n : Nat} {l0 : Nat} {l1 : Int32} {M : zM} {q : Unit × zM} (hcl : zCl Rg M) (hR_l0 : Rg l0) (h : F_Mo_know O n l0 l1 M = some q) : zFr Rg M q.2 := g_Mo_know_0 n l0 l1 M hcl hR_l0 h

set_option maxRecDepth 100000 in
set_option maxHeartbeats 4000000 in
theorem g_Mo_tables_322 {Rg : Nat → Prop} {O : zO} {q : Int32 × zM} {k58 : Nat → Int32 → Int32 → Int32 → Int32 → zM → Option (Int32 × zM)} (hk58 : ∀ (l0 : Nat) (l1 : Int32) (l2 : Int32) (l3 : Int32) (l4 : Int32) (M : zM), zCl Rg M → Rg l0 → k58 l0 l1 l2 l3 l4 M = some q → zFr Rg M q.2) : ∀ (n : Nat) (l0 : Nat) (l1 : Int32) (l2 : Int32) (l3 : Int32) (l4 : Int32) (M : zM), zCl Rg M → Rg l0 → f_Mo_tables_322 O k58 n l0 l1 l2 l3 l4 M = some q → zFr Rg M q.2 := by
  intro n l0 l1 l2 l3 l4 M hcl hR_l0 h
  rw [f_Mo_tables_322] at h
  have g := zFr.rf hcl
  obtain ⟨v1, e2, h⟩ := zlet_ex h
  exact g.tr (hk58 l0 l1 l2 l3 v1 M g.cl hR_l0 h)
set_option maxRecDepth 100000 in
set_option maxHeartbeats 4000000 in
theorem g_Mo_tables_266 {Rg : Nat → Prop} {O : zO} {q : Int32 × zM} {k58 : Nat → Int32 → Int32 → Int32 → Int32 → zM → Option (Int32 × zM)} (hk58 : ∀ (l0 : Nat) (l1 : Int32) (l2 : Int32) (l3 : Int32) (l4 : Int32) (M : zM), zCl Rg M → Rg l0 → k58 l0 l1 l2 l3 l4 M = some q → zFr Rg M q.2) : ∀ (n : Nat) (l0 : Nat) (l1 : Int32) (l2 : Int32) (l3 : Int32) (l4 : Int32) (s0 : Nat) (s1 : Int32) (s2 : Int32) (s3 : Int32) (M : zM), zCl Rg M → Rg l0 → Rg s0 → f_Mo_tables_266 O k58 n l0 l1 l2 l3 l4 s0 s1 s2 s3 M = some q → zFr Rg M q.2 := by
  intro n l0 l1 l2 l3 l4 s0 s1 s2 s3 M hcl hR_l0 hR_s0 h
  rw [f_Mo_tables_266] at h
  have g := zFr.rf hcl
  obtain ⟨q1, c2, h⟩ := zbd h
  have g := g.tr (G_Mo_lastOf g.cl c2)
  obtain ⟨h3, h⟩ := zif h
  obtain ⟨q4, c5, h⟩ := zbd h
  have g := g.tr (G_Mo_share g.cl hR_s0 c5)
  by_cases c17 : 0 ≤ q4.1
  · have h := zift h c17
    obtain ⟨h6, h⟩ := zif h
    obtain ⟨q7, c8, h⟩ := zbd h
    have g := g.tr (G_Mo_keepDraft g.cl hR_l0 c8)
    obtain ⟨h9, h⟩ := zif h
    obtain ⟨M10, e11, h⟩ := zlet_ex h
    have g := g.i hR_l0 e11
    have h12 := k_i e11 h9
    exact g.tr (g_Mo_tables_322 hk58 n l0 l1 l2 l3 l4 M10 g.cl hR_l0 h)
  · have h := ziff h c17
    obtain ⟨h13, h⟩ := zif h
    obtain ⟨q14, c15, h⟩ := zbd h
    have g := g.tr (G_Mo_wrong g.cl hR_l0 c15)
    obtain ⟨h16, h⟩ := zif h
    obtain rfl := z_res h
    exact g
set_option maxRecDepth 100000 in
set_option maxHeartbeats 4000000 in
theorem g_Mo_tables_194 {Rg : Nat → Prop} {O : zO} {q : Int32 × zM} {k58 : Nat → Int32 → Int32 → Int32 → Int32 → zM → Option (Int32 × zM)} (hk58 : ∀ (l0 : Nat) (l1 : Int32) (l2 : Int32) (l3 : Int32) (l4 : Int32) (M : zM), zCl Rg M → Rg l0 → k58 l0 l1 l2 l3 l4 M = some q → zFr Rg M q.2) {k163 : Nat → Int32 → Int32 → Int32 → Int32 → Int32 → Int32 → zM → Option (Int32 × zM)} (hk163 : ∀ (l0 : Nat) (l1 : Int32) (l2 : Int32) (l3 : Int32) (l4 : Int32) (l6 : Int32) (l7 : Int32) (M : zM), zCl Rg M → Rg l0 → k163 l0 l1 l2 l3 l4 l6 l7 M = some q → zFr Rg M q.2) : ∀ (n : Nat) (l0 : Nat) (l1 : Int32) (l2 : Int32) (l3 : Int32) (l4 : Int32) (l6 : Int32) (l7 : Int32) (s0 : Nat) (s1 : Int32) (s2 : Int32) (M : zM), zCl Rg M → Rg l0 → Rg s0 → f_Mo_tables_194 O k58 k163 n l0 l1 l2 l3 l4 l6 l7 s0 s1 s2 M = some q → zFr Rg M q.2 := by
  intro n l0 l1 l2 l3 l4 l6 l7 s0 s1 s2 M hcl hR_l0 hR_s0 h
  rw [f_Mo_tables_194] at h
  have g := zFr.rf hcl
  obtain ⟨h1, h⟩ := zif h
  obtain ⟨h2, h⟩ := zif h
  obtain ⟨M3, e4, h⟩ := zlet_ex h
  have g := g.i hR_s0 e4
  have h5 := k_i e4 h1
  obtain ⟨v6, e7, h⟩ := zlet_ex h
  exact g.tr (hk163 l0 l1 l2 l3 l4 l6 v6 M3 g.cl hR_l0 h)
set_option maxRecDepth 100000 in
set_option maxHeartbeats 4000000 in
theorem g_Mo_tables_163 {Rg : Nat → Prop} {O : zO} {q : Int32 × zM} {k58 : Nat → Int32 → Int32 → Int32 → Int32 → zM → Option (Int32 × zM)} (hk58 : ∀ (l0 : Nat) (l1 : Int32) (l2 : Int32) (l3 : Int32) (l4 : Int32) (M : zM), zCl Rg M → Rg l0 → k58 l0 l1 l2 l3 l4 M = some q → zFr Rg M q.2) : ∀ (n : Nat) (l0 : Nat) (l1 : Int32) (l2 : Int32) (l3 : Int32) (l4 : Int32) (l6 : Int32) (l7 : Int32) (M : zM), zCl Rg M → Rg l0 → f_Mo_tables_163 O k58 n l0 l1 l2 l3 l4 l6 l7 M = some q → zFr Rg M q.2 := by
  intro n
  induction n with
  | zero => intro l0 l1 l2 l3 l4 l6 l7 M hcl hR_l0 h; rw [f_Mo_tables_163] at h; cases h
  | succ n ih =>
    intro l0 l1 l2 l3 l4 l6 l7 M hcl hR_l0 h
    rw [f_Mo_tables_163] at h
    have g := zFr.rf hcl
    by_cases c25 : (64 : Int32) ≤ l7
    · have h := zift h c25
      obtain ⟨h1, h⟩ := zif h
      have r5 : Rg (z_p M l0 17) := g.cl _ _ hR_l0
      obtain ⟨h2, h⟩ := zif h
      obtain ⟨h3, h⟩ := zif h
      obtain ⟨M4, e5, h⟩ := zlet_ex h
      have g := g.i r5 e5
      have h6 := k_i e5 h1
      have h7 := k_i e5 h2
      have r6 : Rg (z_p M4 l0 18) := g.cl _ _ hR_l0
      obtain ⟨h8, h⟩ := zif h
      obtain ⟨h9, h⟩ := zif h
      obtain ⟨M10, e11, h⟩ := zlet_ex h
      have g := g.i r6 e11
      have h12 := k_i e11 h6
      have h13 := k_i e11 h7
      have h14 := k_i e11 h8
      have r7 : Rg (z_p M10 l0 19) := g.cl _ _ hR_l0
      obtain ⟨h15, h⟩ := zif h
      obtain ⟨h16, h⟩ := zif h
      obtain ⟨M17, e18, h⟩ := zlet_ex h
      have g := g.i r7 e18
      have h19 := k_i e18 h12
      have h20 := k_i e18 h13
      have h21 := k_i e18 h14
      have h22 := k_i e18 h15
      exact g.tr (g_Mo_tables_322 hk58 n l0 l1 l2 l3 l4 M17 g.cl hR_l0 h)
    · have h := ziff h c25
      obtain ⟨h23, h⟩ := zif h
      have r8 : Rg (z_p M l0 15) := g.cl _ _ hR_l0
      by_cases c24 : l7 = l6
      · have h := zift h c24
        exact g.tr (g_Mo_tables_194 hk58 ih n l0 l1 l2 l3 l4 l6 l7 (z_p M l0 15) (((64 : Int32) * l4) + l7) (1 : Int32) M g.cl hR_l0 r8 h)
      · have h := ziff h c24
        exact g.tr (g_Mo_tables_194 hk58 ih n l0 l1 l2 l3 l4 l6 l7 (z_p M l0 15) (((64 : Int32) * l4) + l7) (0 : Int32) M g.cl hR_l0 r8 h)
set_option maxRecDepth 100000 in
set_option maxHeartbeats 4000000 in
theorem g_Mo_tables_58 {Rg : Nat → Prop} {O : zO} {q : Int32 × zM} : ∀ (n : Nat) (l0 : Nat) (l1 : Int32) (l2 : Int32) (l3 : Int32) (l4 : Int32) (M : zM), zCl Rg M → Rg l0 → f_Mo_tables_58 O n l0 l1 l2 l3 l4 M = some q → zFr Rg M q.2 := by
  intro n
  induction n with
  | zero => intro l0 l1 l2 l3 l4 M hcl hR_l0 h; rw [f_Mo_tables_58] at h; cases h
  | succ n ih =>
    intro l0 l1 l2 l3 l4 M hcl hR_l0 h
    rw [f_Mo_tables_58] at h
    have g := zFr.rf hcl
    by_cases c45 : (3 : Int32) ≤ l4
    · have h := zift h c45
      obtain rfl := z_res h
      exact g
    · have h := ziff h c45
      obtain ⟨v1, e2, h⟩ := zlet_ex h
      by_cases c44 : v1 = 0
      · have h := zift h c44
        obtain ⟨h41, h⟩ := zif h
        obtain ⟨q42, c43, h⟩ := zbd h
        have g := g.tr (G_Mo_know g.cl hR_l0 c43)
        exact g.tr (g_Mo_tables_322 ih n l0 l1 l2 l3 l4 q42.2 g.cl hR_l0 h)
      · have h := ziff h c44
        by_cases c40 : v1 = (1 : Int32)
        · have h := zift h c40
          obtain ⟨h13, h⟩ := zif h
          by_cases c39 : (z_i M l0 28) < l1
          · have h := zift h c39
            have r3 : Rg (z_p M l0 0) := g.cl _ _ hR_l0
            obtain ⟨h14, h⟩ := zif h
            obtain ⟨h15, h⟩ := zif h
            obtain ⟨v16, e17, h⟩ := zlet_ex h
            obtain ⟨M18, e19, h⟩ := zlet_ex h
            have g := g.i hR_l0 e19
            have h20 := k_i e19 h13
            have h21 := k_i e19 h14
            obtain ⟨q22, c23, h⟩ := zbd h
            have g := g.tr (G_Mo_lastOf g.cl c23)
            by_cases c35 : v16 ≤ q22.1
            · have h := zift h c35
              obtain ⟨h24, h⟩ := zif h
              have r4 : Rg (z_p q22.2 l0 16) := g.cl _ _ hR_l0
              obtain ⟨h25, h⟩ := zif h
              obtain ⟨h26, h⟩ := zif h
              obtain ⟨M27, e28, h⟩ := zlet_ex h
              have g := g.i r4 e28
              have h29 := k_i e28 h24
              have h30 := k_i e28 h25
              exact g.tr (g_Mo_tables_163 ih n l0 l1 l2 l3 l4 v16 (0 : Int32) M27 g.cl hR_l0 h)
            · have h := ziff h c35
              obtain ⟨h31, h⟩ := zif h
              obtain ⟨q32, c33, h⟩ := zbd h
              have g := g.tr (G_Mo_wrong g.cl hR_l0 c33)
              obtain ⟨h34, h⟩ := zif h
              obtain rfl := z_res h
              exact g
          · have h := ziff h c39
            obtain ⟨q36, c37, h⟩ := zbd h
            have g := g.tr (G_Mo_wrong g.cl hR_l0 c37)
            obtain ⟨h38, h⟩ := zif h
            obtain rfl := z_res h
            exact g
        · have h := ziff h c40
          by_cases c12 : v1 = (2 : Int32)
          · have h := zift h c12
            obtain ⟨h10, h⟩ := zif h
            by_cases c11 : l4 = (1 : Int32)
            · have h := zift h c11
              exact g.tr (g_Mo_tables_266 ih n l0 l1 l2 l3 l4 l0 (z_i M l0 28) l1 (8 : Int32) M g.cl hR_l0 hR_l0 h)
            · have h := ziff h c11
              exact g.tr (g_Mo_tables_266 ih n l0 l1 l2 l3 l4 l0 (z_i M l0 28) l1 (9 : Int32) M g.cl hR_l0 hR_l0 h)
          · have h := ziff h c12
            obtain ⟨h3, h⟩ := zif h
            have r2 : Rg (z_p M l0 16) := g.cl _ _ hR_l0
            obtain ⟨h4, h⟩ := zif h
            obtain ⟨h5, h⟩ := zif h
            by_cases c9 : 0 ≤ (z_i M (z_p M l0 16) l4.toNatClampNeg)
            · have h := zift h c9
              exact g.tr (g_Mo_tables_322 ih n l0 l1 l2 l3 l4 M g.cl hR_l0 h)
            · have h := ziff h c9
              obtain ⟨q6, c7, h⟩ := zbd h
              have g := g.tr (G_Mo_wrong g.cl hR_l0 c7)
              obtain ⟨h8, h⟩ := zif h
              obtain rfl := z_res h
              exact g
set_option maxRecDepth 100000 in
set_option maxHeartbeats 4000000 in
theorem g_Mo_tables_0 {Rg : Nat → Prop} {O : zO} {q : Int32 × zM} : ∀ (n : Nat) (l0 : Nat) (l1 : Int32) (M : zM), zCl Rg M → Rg l0 → f_Mo_tables_0 O n l0 l1 M = some q → zFr Rg M q.2 := by
  intro n l0 l1 M hcl hR_l0 h
  rw [f_Mo_tables_0] at h
  have g := zFr.rf hcl
  obtain ⟨h1, h⟩ := zif h
  obtain ⟨v2, e3, h⟩ := zlet_ex h
  by_cases c19 : (z_i M l0 28) < l1
  · have h := zift h c19
    have r1 : Rg (z_p M l0 0) := g.cl _ _ hR_l0
    obtain ⟨h4, h⟩ := zif h
    obtain ⟨h5, h⟩ := zif h
    obtain ⟨v6, e7, h⟩ := zlet_ex h
    obtain ⟨M8, e9, h⟩ := zlet_ex h
    have g := g.i hR_l0 e9
    have h10 := k_i e9 h1
    have h11 := k_i e9 h4
    by_cases c15 : (v6 - v6 / (4 : Int32) * (4 : Int32)) ≤ 0
    · have h := zift h c15
      exact g.tr (g_Mo_tables_58 n l0 l1 v2 v6 (0 : Int32) M8 g.cl hR_l0 h)
    · have h := ziff h c15
      obtain ⟨q12, c13, h⟩ := zbd h
      have g := g.tr (G_Mo_wrong g.cl hR_l0 c13)
      obtain ⟨h14, h⟩ := zif h
      obtain rfl := z_res h
      exact g
  · have h := ziff h c19
    obtain ⟨q16, c17, h⟩ := zbd h
    have g := g.tr (G_Mo_wrong g.cl hR_l0 c17)
    obtain ⟨h18, h⟩ := zif h
    obtain rfl := z_res h
    exact g
theorem G_Mo_tables {Rg : Nat → Prop} {O : zO} {n : Nat} {l0 : Nat} {l1 : Int32} {M : zM} {q : Int32 × zM} (hcl : zCl Rg M) (hR_l0 : Rg l0) (h : F_Mo_tables O n l0 l1 M = some q) : zFr Rg M q.2 := g_Mo_tables_0 n l0 l1 M hcl hR_l0 h

set_option maxRecDepth 100000 in
set_option maxHeartbeats 4000000 in
theorem g_Mo_matchBits_64 {Rg : Nat → Prop} {O : zO} {q : Int32 × zM} : ∀ (n : Nat) (s0 : Int32) (M : zM), zCl Rg M → f_Mo_matchBits_64 O n s0 M = some q → zFr Rg M q.2 := by
  intro n s0 M hcl h
  rw [f_Mo_matchBits_64] at h
  have g := zFr.rf hcl
  obtain rfl := z_res h
  exact g
set_option maxRecDepth 100000 in
set_option maxHeartbeats 4000000 in
theorem g_Mo_matchBits_0 {Rg : Nat → Prop} {O : zO} {q : Int32 × zM} : ∀ (n : Nat) (l0 : Int32) (M : zM), zCl Rg M → f_Mo_matchBits_0 O n l0 M = some q → zFr Rg M q.2 := by
  intro n l0 M hcl h
  rw [f_Mo_matchBits_0] at h
  have g := zFr.rf hcl
  by_cases c6 : (32 : Int32) ≤ l0
  · have h := zift h c6
    by_cases c5 : (36 : Int32) ≤ l0
    · have h := zift h c5
      by_cases c4 : (38 : Int32) ≤ l0
      · have h := zift h c4
        by_cases c3 : (40 : Int32) ≤ l0
        · have h := zift h c3
          by_cases c2 : (42 : Int32) ≤ l0
          · have h := zift h c2
            by_cases c1 : l0 = (42 : Int32)
            · have h := zift h c1
              exact g.tr (g_Mo_matchBits_64 n (5 : Int32) M g.cl h)
            · have h := ziff h c1
              exact g.tr (g_Mo_matchBits_64 n (l0 - (36 : Int32)) M g.cl h)
          · have h := ziff h c2
            exact g.tr (g_Mo_matchBits_64 n (4 : Int32) M g.cl h)
        · have h := ziff h c3
          exact g.tr (g_Mo_matchBits_64 n (3 : Int32) M g.cl h)
      · have h := ziff h c4
        exact g.tr (g_Mo_matchBits_64 n (2 : Int32) M g.cl h)
    · have h := ziff h c5
      exact g.tr (g_Mo_matchBits_64 n (1 : Int32) M g.cl h)
  · have h := ziff h c6
    exact g.tr (g_Mo_matchBits_64 n (0 : Int32) M g.cl h)
theorem G_Mo_matchBits {Rg : Nat → Prop} {O : zO} {n : Nat} {l0 : Int32} {M : zM} {q : Int32 × zM} (hcl : zCl Rg M) (h : F_Mo_matchBits O n l0 M = some q) : zFr Rg M q.2 := g_Mo_matchBits_0 n l0 M hcl h

set_option maxRecDepth 100000 in
set_option maxHeartbeats 4000000 in
theorem g_Mo_literalBits_54 {Rg : Nat → Prop} {O : zO} {q : Int32 × zM} : ∀ (n : Nat) (s0 : Int32) (M : zM), zCl Rg M → f_Mo_literalBits_54 O n s0 M = some q → zFr Rg M q.2 := by
  intro n s0 M hcl h
  rw [f_Mo_literalBits_54] at h
  have g := zFr.rf hcl
  obtain rfl := z_res h
  exact g
set_option maxRecDepth 100000 in
set_option maxHeartbeats 4000000 in
theorem g_Mo_literalBits_0 {Rg : Nat → Prop} {O : zO} {q : Int32 × zM} : ∀ (n : Nat) (l0 : Int32) (M : zM), zCl Rg M → f_Mo_literalBits_0 O n l0 M = some q → zFr Rg M q.2 := by
  intro n l0 M hcl h
  rw [f_Mo_literalBits_0] at h
  have g := zFr.rf hcl
  by_cases c5 : (16 : Int32) ≤ l0
  · have h := zift h c5
    by_cases c4 : (20 : Int32) ≤ l0
    · have h := zift h c4
      by_cases c3 : (22 : Int32) ≤ l0
      · have h := zift h c3
        by_cases c2 : (24 : Int32) ≤ l0
        · have h := zift h c2
          by_cases c1 : l0 = (24 : Int32)
          · have h := zift h c1
            exact g.tr (g_Mo_literalBits_54 n (4 : Int32) M g.cl h)
          · have h := ziff h c1
            exact g.tr (g_Mo_literalBits_54 n (l0 - (19 : Int32)) M g.cl h)
        · have h := ziff h c2
          exact g.tr (g_Mo_literalBits_54 n (3 : Int32) M g.cl h)
      · have h := ziff h c3
        exact g.tr (g_Mo_literalBits_54 n (2 : Int32) M g.cl h)
    · have h := ziff h c4
      exact g.tr (g_Mo_literalBits_54 n (1 : Int32) M g.cl h)
  · have h := ziff h c5
    exact g.tr (g_Mo_literalBits_54 n (0 : Int32) M g.cl h)
theorem G_Mo_literalBits {Rg : Nat → Prop} {O : zO} {n : Nat} {l0 : Int32} {M : zM} {q : Int32 × zM} (hcl : zCl Rg M) (h : F_Mo_literalBits O n l0 M = some q) : zFr Rg M q.2 := g_Mo_literalBits_0 n l0 M hcl h

set_option maxRecDepth 100000 in
set_option maxHeartbeats 4000000 in
theorem g_Mo_matchBase_95 {Rg : Nat → Prop} {O : zO} {q : Int32 × zM} : ∀ (n : Nat) (s0 : Int32) (M : zM), zCl Rg M → f_Mo_matchBase_95 O n s0 M = some q → zFr Rg M q.2 := by
  intro n s0 M hcl h
  rw [f_Mo_matchBase_95] at h
  have g := zFr.rf hcl
  obtain rfl := z_res h
  exact g
set_option maxRecDepth 100000 in
set_option maxHeartbeats 4000000 in
theorem g_Mo_matchBase_0 {Rg : Nat → Prop} {O : zO} {q : Int32 × zM} : ∀ (n : Nat) (l0 : Int32) (M : zM), zCl Rg M → f_Mo_matchBase_0 O n l0 M = some q → zFr Rg M q.2 := by
  intro n l0 M hcl h
  rw [f_Mo_matchBase_0] at h
  have g := zFr.rf hcl
  by_cases c6 : (32 : Int32) ≤ l0
  · have h := zift h c6
    by_cases c5 : (36 : Int32) ≤ l0
    · have h := zift h c5
      by_cases c4 : (38 : Int32) ≤ l0
      · have h := zift h c4
        by_cases c3 : (40 : Int32) ≤ l0
        · have h := zift h c3
          by_cases c2 : (42 : Int32) ≤ l0
          · have h := zift h c2
            by_cases c1 : l0 = (42 : Int32)
            · have h := zift h c1
              exact g.tr (g_Mo_matchBase_95 n (99 : Int32) M g.cl h)
            · have h := ziff h c1
              exact g.tr (g_Mo_matchBase_95 n (((1 : Int32) <<< ((l0 - (36 : Int32)) &&& 31)) + (3 : Int32)) M g.cl h)
          · have h := ziff h c2
            obtain rfl := z_res h
            exact g
        · have h := ziff h c3
          obtain rfl := z_res h
          exact g
      · have h := ziff h c4
        obtain rfl := z_res h
        exact g
    · have h := ziff h c5
      obtain rfl := z_res h
      exact g
  · have h := ziff h c6
    obtain rfl := z_res h
    exact g
theorem G_Mo_matchBase {Rg : Nat → Prop} {O : zO} {n : Nat} {l0 : Int32} {M : zM} {q : Int32 × zM} (hcl : zCl Rg M) (h : F_Mo_matchBase O n l0 M = some q) : zFr Rg M q.2 := g_Mo_matchBase_0 n l0 M hcl h

set_option maxRecDepth 100000 in
set_option maxHeartbeats 4000000 in
theorem g_Mo_literalBase_74 {Rg : Nat → Prop} {O : zO} {q : Int32 × zM} : ∀ (n : Nat) (s0 : Int32) (M : zM), zCl Rg M → f_Mo_literalBase_74 O n s0 M = some q → zFr Rg M q.2 := by
  intro n s0 M hcl h
  rw [f_Mo_literalBase_74] at h
  have g := zFr.rf hcl
  obtain rfl := z_res h
  exact g
set_option maxRecDepth 100000 in
set_option maxHeartbeats 4000000 in
theorem g_Mo_literalBase_0 {Rg : Nat → Prop} {O : zO} {q : Int32 × zM} : ∀ (n : Nat) (l0 : Int32) (M : zM), zCl Rg M → f_Mo_literalBase_0 O n l0 M = some q → zFr Rg M q.2 := by
  intro n l0 M hcl h
  rw [f_Mo_literalBase_0] at h
  have g := zFr.rf hcl
  by_cases c5 : (16 : Int32) ≤ l0
  · have h := zift h c5
    by_cases c4 : (20 : Int32) ≤ l0
    · have h := zift h c4
      by_cases c3 : (22 : Int32) ≤ l0
      · have h := zift h c3
        by_cases c2 : (24 : Int32) ≤ l0
        · have h := zift h c2
          by_cases c1 : l0 = (24 : Int32)
          · have h := zift h c1
            exact g.tr (g_Mo_literalBase_74 n (48 : Int32) M g.cl h)
          · have h := ziff h c1
            exact g.tr (g_Mo_literalBase_74 n ((1 : Int32) <<< ((l0 - (19 : Int32)) &&& 31)) M g.cl h)
        · have h := ziff h c2
          obtain rfl := z_res h
          exact g
      · have h := ziff h c3
        obtain rfl := z_res h
        exact g
    · have h := ziff h c4
      obtain rfl := z_res h
      exact g
  · have h := ziff h c5
    obtain rfl := z_res h
    exact g
theorem G_Mo_literalBase {Rg : Nat → Prop} {O : zO} {n : Nat} {l0 : Int32} {M : zM} {q : Int32 × zM} (hcl : zCl Rg M) (h : F_Mo_literalBase O n l0 M = some q) : zFr Rg M q.2 := g_Mo_literalBase_0 n l0 M hcl h

set_option maxRecDepth 100000 in
set_option maxHeartbeats 4000000 in
theorem g_Mo_distanceOf_126 {Rg : Nat → Prop} {O : zO} {q : Int64 × zM} : ∀ (n : Nat) (l0 : Nat) (l6 : Int64) (M : zM), zCl Rg M → Rg l0 → f_Mo_distanceOf_126 O n l0 l6 M = some q → zFr Rg M q.2 := by
  intro n l0 l6 M hcl hR_l0 h
  rw [f_Mo_distanceOf_126] at h
  have g := zFr.rf hcl
  obtain ⟨h1, h⟩ := zif h
  have r7 : Rg (z_p M l0 20) := g.cl _ _ hR_l0
  have r8 : Rg (z_p M l0 20) := g.cl _ _ hR_l0
  obtain ⟨h2, h⟩ := zif h
  obtain ⟨h3, h⟩ := zif h
  obtain ⟨h4, h⟩ := zif h
  obtain ⟨M5, e6, h⟩ := zlet_ex h
  have g := g.j r8 e6
  have h7 := k_j e6 h1
  have h8 := k_j e6 h2
  have r9 : Rg (z_p M5 l0 20) := g.cl _ _ hR_l0
  obtain ⟨h9, h⟩ := zif h
  obtain ⟨h10, h⟩ := zif h
  obtain ⟨M11, e12, h⟩ := zlet_ex h
  have g := g.j r9 e12
  have h13 := k_j e12 h7
  have h14 := k_j e12 h8
  have h15 := k_j e12 h9
  obtain rfl := z_res h
  exact g
set_option maxRecDepth 100000 in
set_option maxHeartbeats 4000000 in
theorem g_Mo_distanceOf_114 {Rg : Nat → Prop} {O : zO} {q : Int64 × zM} : ∀ (n : Nat) (l0 : Nat) (l6 : Int64) (M : zM), zCl Rg M → Rg l0 → f_Mo_distanceOf_114 O n l0 l6 M = some q → zFr Rg M q.2 := by
  intro n l0 l6 M hcl hR_l0 h
  rw [f_Mo_distanceOf_114] at h
  have g := zFr.rf hcl
  obtain ⟨h1, h⟩ := zif h
  have r5 : Rg (z_p M l0 20) := g.cl _ _ hR_l0
  have r6 : Rg (z_p M l0 20) := g.cl _ _ hR_l0
  obtain ⟨h2, h⟩ := zif h
  obtain ⟨h3, h⟩ := zif h
  obtain ⟨h4, h⟩ := zif h
  obtain ⟨M5, e6, h⟩ := zlet_ex h
  have g := g.j r6 e6
  have h7 := k_j e6 h1
  have h8 := k_j e6 h2
  exact g.tr (g_Mo_distanceOf_126 n l0 l6 M5 g.cl hR_l0 h)
set_option maxRecDepth 100000 in
set_option maxHeartbeats 4000000 in
theorem g_Mo_distanceOf_95 {Rg : Nat → Prop} {O : zO} {q : Int64 × zM} : ∀ (n : Nat) (l0 : Nat) (l1 : Int64) (l4 : Int64) (s0 : Int64) (M : zM), zCl Rg M → Rg l0 → f_Mo_distanceOf_95 O n l0 l1 l4 s0 M = some q → zFr Rg M q.2 := by
  intro n l0 l1 l4 s0 M hcl hR_l0 h
  rw [f_Mo_distanceOf_95] at h
  have g := zFr.rf hcl
  by_cases c2 : 0 < (lg_cmp l1 (3 : Int64))
  · have h := zift h c2
    exact g.tr (g_Mo_distanceOf_114 n l0 s0 M g.cl hR_l0 h)
  · have h := ziff h c2
    by_cases c1 : (lg_cmp l4 (2 : Int64)) ≤ 0
    · have h := zift h c1
      exact g.tr (g_Mo_distanceOf_126 n l0 s0 M g.cl hR_l0 h)
    · have h := ziff h c1
      exact g.tr (g_Mo_distanceOf_114 n l0 s0 M g.cl hR_l0 h)
set_option maxRecDepth 100000 in
set_option maxHeartbeats 4000000 in
theorem g_Mo_distanceOf_35 {Rg : Nat → Prop} {O : zO} {q : Int64 × zM} : ∀ (n : Nat) (l0 : Nat) (l1 : Int64) (l4 : Int64) (M : zM), zCl Rg M → Rg l0 → f_Mo_distanceOf_35 O n l0 l1 l4 M = some q → zFr Rg M q.2 := by
  intro n l0 l1 l4 M hcl hR_l0 h
  rw [f_Mo_distanceOf_35] at h
  have g := zFr.rf hcl
  by_cases c12 : (lg_cmp l1 (3 : Int64)) ≤ 0
  · have h := zift h c12
    by_cases c11 : (lg_cmp l4 (2 : Int64)) = 0
    · have h := zift h c11
      obtain ⟨h8, h⟩ := zif h
      have r4 : Rg (z_p M l0 20) := g.cl _ _ hR_l0
      obtain ⟨h9, h⟩ := zif h
      obtain ⟨h10, h⟩ := zif h
      exact g.tr (g_Mo_distanceOf_95 n l0 l1 l4 (z_j M (z_p M l0 20) (1 : Int32).toNatClampNeg) M g.cl hR_l0 h)
    · have h := ziff h c11
      by_cases c7 : (lg_cmp l4 (3 : Int64)) = 0
      · have h := zift h c7
        obtain ⟨h4, h⟩ := zif h
        have r3 : Rg (z_p M l0 20) := g.cl _ _ hR_l0
        obtain ⟨h5, h⟩ := zif h
        obtain ⟨h6, h⟩ := zif h
        exact g.tr (g_Mo_distanceOf_95 n l0 l1 l4 (z_j M (z_p M l0 20) (2 : Int32).toNatClampNeg) M g.cl hR_l0 h)
      · have h := ziff h c7
        obtain ⟨h1, h⟩ := zif h
        have r2 : Rg (z_p M l0 20) := g.cl _ _ hR_l0
        obtain ⟨h2, h⟩ := zif h
        obtain ⟨h3, h⟩ := zif h
        exact g.tr (g_Mo_distanceOf_95 n l0 l1 l4 ((z_j M (z_p M l0 20) (0 : Int32).toNatClampNeg) - (1 : Int64)) M g.cl hR_l0 h)
  · have h := ziff h c12
    exact g.tr (g_Mo_distanceOf_95 n l0 l1 l4 (l1 - (3 : Int64)) M g.cl hR_l0 h)
set_option maxRecDepth 100000 in
set_option maxHeartbeats 4000000 in
theorem g_Mo_distanceOf_11 {Rg : Nat → Prop} {O : zO} {q : Int64 × zM} : ∀ (n : Nat) (l0 : Nat) (l1 : Int64) (s0 : Int64) (M : zM), zCl Rg M → Rg l0 → f_Mo_distanceOf_11 O n l0 l1 s0 M = some q → zFr Rg M q.2 := by
  intro n l0 l1 s0 M hcl hR_l0 h
  rw [f_Mo_distanceOf_11] at h
  have g := zFr.rf hcl
  by_cases c5 : 0 < (lg_cmp l1 (3 : Int64))
  · have h := zift h c5
    exact g.tr (g_Mo_distanceOf_35 n l0 l1 s0 M g.cl hR_l0 h)
  · have h := ziff h c5
    by_cases c4 : (lg_cmp s0 (1 : Int64)) = 0
    · have h := zift h c4
      obtain ⟨h1, h⟩ := zif h
      have r1 : Rg (z_p M l0 20) := g.cl _ _ hR_l0
      obtain ⟨h2, h⟩ := zif h
      obtain ⟨h3, h⟩ := zif h
      obtain rfl := z_res h
      exact g
    · have h := ziff h c4
      exact g.tr (g_Mo_distanceOf_35 n l0 l1 s0 M g.cl hR_l0 h)
set_option maxRecDepth 100000 in
set_option maxHeartbeats 4000000 in
theorem g_Mo_distanceOf_0 {Rg : Nat → Prop} {O : zO} {q : Int64 × zM} : ∀ (n : Nat) (l0 : Nat) (l1 : Int64) (l3 : Int32) (M : zM), zCl Rg M → Rg l0 → f_Mo_distanceOf_0 O n l0 l1 l3 M = some q → zFr Rg M q.2 := by
  intro n l0 l1 l3 M hcl hR_l0 h
  rw [f_Mo_distanceOf_0] at h
  have g := zFr.rf hcl
  by_cases c1 : l3 = 0
  · have h := zift h c1
    exact g.tr (g_Mo_distanceOf_11 n l0 l1 (l1 + (1 : Int64)) M g.cl hR_l0 h)
  · have h := ziff h c1
    exact g.tr (g_Mo_distanceOf_11 n l0 l1 l1 M g.cl hR_l0 h)
theorem G_Mo_distanceOf {Rg : Nat → Prop} {O : zO} {n : Nat} {l0 : Nat} {l1 : Int64} {l3 : Int32} {M : zM} {q : Int64 × zM} (hcl : zCl Rg M) (hR_l0 : Rg l0) (h : F_Mo_distanceOf O n l0 l1 l3 M = some q) : zFr Rg M q.2 := g_Mo_distanceOf_0 n l0 l1 l3 M hcl hR_l0 h

set_option maxRecDepth 100000 in
set_option maxHeartbeats 4000000 in
theorem g_Mo_isAbove_23 {Rg : Nat → Prop} {O : zO} {q : Int32 × zM} : ∀ (n : Nat) (s0 : Int32) (M : zM), zCl Rg M → f_Mo_isAbove_23 O n s0 M = some q → zFr Rg M q.2 := by
  intro n s0 M hcl h
  rw [f_Mo_isAbove_23] at h
  have g := zFr.rf hcl
  obtain ⟨h1, h⟩ := zif h
  obtain rfl := z_res h
  exact g
set_option maxRecDepth 100000 in
set_option maxHeartbeats 4000000 in
theorem g_Mo_isAbove_22 {Rg : Nat → Prop} {O : zO} {q : Int32 × zM} : ∀ (n : Nat) (M : zM), zCl Rg M → f_Mo_isAbove_22 O n M = some q → zFr Rg M q.2 := by
  intro n M hcl h
  rw [f_Mo_isAbove_22] at h
  have g := zFr.rf hcl
  exact g.tr (g_Mo_isAbove_23 n (0 : Int32) M g.cl h)
set_option maxRecDepth 100000 in
set_option maxHeartbeats 4000000 in
theorem g_Mo_isAbove_0 {Rg : Nat → Prop} {O : zO} {q : Int32 × zM} : ∀ (n : Nat) (l0 : Nat) (l1 : Int64) (M : zM), zCl Rg M → Rg l0 → f_Mo_isAbove_0 O n l0 l1 M = some q → zFr Rg M q.2 := by
  intro n l0 l1 M hcl hR_l0 h
  rw [f_Mo_isAbove_0] at h
  have g := zFr.rf hcl
  obtain ⟨h1, h⟩ := zif h
  by_cases c3 : (lg_cmp (z_j M l0 38) (0 : Int64)) < 0
  · have h := zift h c3
    exact g.tr (g_Mo_isAbove_22 n M g.cl h)
  · have h := ziff h c3
    by_cases c2 : (lg_cmp l1 (z_j M l0 38)) ≤ 0
    · have h := zift h c2
      exact g.tr (g_Mo_isAbove_22 n M g.cl h)
    · have h := ziff h c2
      exact g.tr (g_Mo_isAbove_23 n (1 : Int32) M g.cl h)
theorem G_Mo_isAbove {Rg : Nat → Prop} {O : zO} {n : Nat} {l0 : Nat} {l1 : Int64} {M : zM} {q : Int32 × zM} (hcl : zCl Rg M) (hR_l0 : Rg l0) (h : F_Mo_isAbove O n l0 l1 M = some q) : zFr Rg M q.2 := g_Mo_isAbove_0 n l0 l1 M hcl hR_l0 h

set_option maxRecDepth 100000 in
set_option maxHeartbeats 4000000 in
theorem g_Mo_isTooFar_51 {Rg : Nat → Prop} {O : zO} {q : Int32 × zM} : ∀ (n : Nat) (s0 : Int32) (M : zM), zCl Rg M → f_Mo_isTooFar_51 O n s0 M = some q → zFr Rg M q.2 := by
  intro n s0 M hcl h
  rw [f_Mo_isTooFar_51] at h
  have g := zFr.rf hcl
  obtain ⟨h1, h⟩ := zif h
  obtain rfl := z_res h
  exact g
set_option maxRecDepth 100000 in
set_option maxHeartbeats 4000000 in
theorem g_Mo_isTooFar_46 {Rg : Nat → Prop} {O : zO} {q : Int32 × zM} : ∀ (n : Nat) (M : zM), zCl Rg M → f_Mo_isTooFar_46 O n M = some q → zFr Rg M q.2 := by
  intro n M hcl h
  rw [f_Mo_isTooFar_46] at h
  have g := zFr.rf hcl
  exact g.tr (g_Mo_isTooFar_51 n (1 : Int32) M g.cl h)
set_option maxRecDepth 100000 in
set_option maxHeartbeats 4000000 in
theorem g_Mo_isTooFar_50 {Rg : Nat → Prop} {O : zO} {q : Int32 × zM} : ∀ (n : Nat) (M : zM), zCl Rg M → f_Mo_isTooFar_50 O n M = some q → zFr Rg M q.2 := by
  intro n M hcl h
  rw [f_Mo_isTooFar_50] at h
  have g := zFr.rf hcl
  exact g.tr (g_Mo_isTooFar_51 n (0 : Int32) M g.cl h)
set_option maxRecDepth 100000 in
set_option maxHeartbeats 4000000 in
theorem g_Mo_isTooFar_32 {Rg : Nat → Prop} {O : zO} {q : Int32 × zM} : ∀ (n : Nat) (l0 : Nat) (l1 : Int64) (l3 : Int64) (M : zM), zCl Rg M → Rg l0 → f_Mo_isTooFar_32 O n l0 l1 l3 M = some q → zFr Rg M q.2 := by
  intro n l0 l1 l3 M hcl hR_l0 h
  rw [f_Mo_isTooFar_32] at h
  have g := zFr.rf hcl
  by_cases c5 : (lg_cmp l1 l3) ≤ 0
  · have h := zift h c5
    exact g.tr (g_Mo_isTooFar_50 n M g.cl h)
  · have h := ziff h c5
    obtain ⟨h1, h⟩ := zif h
    obtain ⟨q2, c3, h⟩ := zbd h
    have g := g.tr (G_Mo_isAbove g.cl hR_l0 c3)
    by_cases c4 : q2.1 = 0
    · have h := zift h c4
      exact g.tr (g_Mo_isTooFar_50 n q2.2 g.cl h)
    · have h := ziff h c4
      exact g.tr (g_Mo_isTooFar_46 n q2.2 g.cl h)
set_option maxRecDepth 100000 in
set_option maxHeartbeats 4000000 in
theorem g_Mo_isTooFar_0 {Rg : Nat → Prop} {O : zO} {q : Int32 × zM} : ∀ (n : Nat) (l0 : Nat) (l1 : Int64) (l3 : Int64) (M : zM), zCl Rg M → Rg l0 → f_Mo_isTooFar_0 O n l0 l1 l3 M = some q → zFr Rg M q.2 := by
  intro n l0 l1 l3 M hcl hR_l0 h
  rw [f_Mo_isTooFar_0] at h
  have g := zFr.rf hcl
  by_cases c7 : (lg_cmp l1 (0 : Int64)) = 0
  · have h := zift h c7
    exact g.tr (g_Mo_isTooFar_46 n M g.cl h)
  · have h := ziff h c7
    obtain ⟨h1, h⟩ := zif h
    by_cases c6 : 0 < (lg_cmp l1 (l3 + (z_i M l0 5).toInt64))
    · have h := zift h c6
      exact g.tr (g_Mo_isTooFar_46 n M g.cl h)
    · have h := ziff h c6
      by_cases c5 : 0 < (lg_cmp l1 l3)
      · have h := zift h c5
        exact g.tr (g_Mo_isTooFar_32 n l0 l1 l3 M g.cl hR_l0 h)
      · have h := ziff h c5
        obtain ⟨q2, c3, h⟩ := zbd h
        have g := g.tr (G_Mo_isAbove g.cl hR_l0 c3)
        by_cases c4 : q2.1 = 0
        · have h := zift h c4
          exact g.tr (g_Mo_isTooFar_32 n l0 l1 l3 q2.2 g.cl hR_l0 h)
        · have h := ziff h c4
          exact g.tr (g_Mo_isTooFar_46 n q2.2 g.cl h)
theorem G_Mo_isTooFar {Rg : Nat → Prop} {O : zO} {n : Nat} {l0 : Nat} {l1 : Int64} {l3 : Int64} {M : zM} {q : Int32 × zM} (hcl : zCl Rg M) (hR_l0 : Rg l0) (h : F_Mo_isTooFar O n l0 l1 l3 M = some q) : zFr Rg M q.2 := g_Mo_isTooFar_0 n l0 l1 l3 M hcl hR_l0 h

set_option maxRecDepth 100000 in
set_option maxHeartbeats 4000000 in
theorem g_Mo_copy_114 {Rg : Nat → Prop} {O : zO} {q : Unit × zM} {k56 : Nat → Int32 → Int32 → Int32 → zM → Option (Unit × zM)} (hk56 : ∀ (l0 : Nat) (l2 : Int32) (l3 : Int32) (l4 : Int32) (M : zM), zCl Rg M → Rg l0 → k56 l0 l2 l3 l4 M = some q → zFr Rg M q.2) : ∀ (n : Nat) (l0 : Nat) (l2 : Int32) (l3 : Int32) (l4 : Int32) (s0 : Nat) (s1 : Int32) (s2 : Int32) (M : zM), zCl Rg M → Rg l0 → Rg s0 → f_Mo_copy_114 O k56 n l0 l2 l3 l4 s0 s1 s2 M = some q → zFr Rg M q.2 := by
  intro n l0 l2 l3 l4 s0 s1 s2 M hcl hR_l0 hR_s0 h
  rw [f_Mo_copy_114] at h
  have g := zFr.rf hcl
  obtain ⟨h1, h⟩ := zif h
  obtain ⟨h2, h⟩ := zif h
  obtain ⟨M3, e4, h⟩ := zlet_ex h
  have g := g.i hR_s0 e4
  have h5 := k_i e4 h1
  obtain ⟨h6, h⟩ := zif h
  obtain ⟨M7, e8, h⟩ := zlet_ex h
  have g := g.i hR_l0 e8
  have h9 := k_i e8 h5
  have h10 := k_i e8 h6
  obtain ⟨v11, e12, h⟩ := zlet_ex h
  exact g.tr (hk56 l0 l2 l3 v11 M7 g.cl hR_l0 h)
set_option maxRecDepth 100000 in
set_option maxHeartbeats 4000000 in
theorem g_Mo_copy_56 {Rg : Nat → Prop} {O : zO} {q : Unit × zM} : ∀ (n : Nat) (l0 : Nat) (l2 : Int32) (l3 : Int32) (l4 : Int32) (M : zM), zCl Rg M → Rg l0 → f_Mo_copy_56 O n l0 l2 l3 l4 M = some q → zFr Rg M q.2 := by
  intro n
  induction n with
  | zero => intro l0 l2 l3 l4 M hcl hR_l0 h; rw [f_Mo_copy_56] at h; cases h
  | succ n ih =>
    intro l0 l2 l3 l4 M hcl hR_l0 h
    rw [f_Mo_copy_56] at h
    have g := zFr.rf hcl
    by_cases c9 : l3 ≤ l4
    · have h := zift h c9
      obtain rfl := z_res h
      exact g
    · have h := ziff h c9
      obtain ⟨h1, h⟩ := zif h
      obtain ⟨v2, e3, h⟩ := zlet_ex h
      have r3 : Rg (z_p M l0 40) := g.cl _ _ hR_l0
      by_cases c8 : v2 < (z_i M l0 31)
      · have h := zift h c8
        have r4 : Rg (z_p M l0 4) := g.cl _ _ hR_l0
        obtain ⟨h4, h⟩ := zif h
        obtain ⟨h5, h⟩ := zif h
        exact g.tr (g_Mo_copy_114 ih n l0 l2 l3 l4 (z_p M l0 40) (z_i M l0 30) (z_i M (z_p M l0 4) (((z_i M l0 5) + v2) - (z_i M l0 31)).toNatClampNeg) M g.cl hR_l0 r3 h)
      · have h := ziff h c8
        have r5 : Rg (z_p M l0 40) := g.cl _ _ hR_l0
        obtain ⟨h6, h⟩ := zif h
        obtain ⟨h7, h⟩ := zif h
        exact g.tr (g_Mo_copy_114 ih n l0 l2 l3 l4 (z_p M l0 40) (z_i M l0 30) (z_i M (z_p M l0 40) v2.toNatClampNeg) M g.cl hR_l0 r5 h)
set_option maxRecDepth 100000 in
set_option maxHeartbeats 4000000 in
theorem g_Mo_copy_3 {Rg : Nat → Prop} {O : zO} {q : Unit × zM} : ∀ (n : Nat) (l0 : Nat) (l1 : Int32) (l2 : Int32) (l3 : Int32) (l4 : Int32) (M : zM), zCl Rg M → Rg l0 → f_Mo_copy_3 O n l0 l1 l2 l3 l4 M = some q → zFr Rg M q.2 := by
  intro n
  induction n with
  | zero => intro l0 l1 l2 l3 l4 M hcl hR_l0 h; rw [f_Mo_copy_3] at h; cases h
  | succ n ih =>
    intro l0 l1 l2 l3 l4 M hcl hR_l0 h
    rw [f_Mo_copy_3] at h
    have g := zFr.rf hcl
    by_cases c23 : l1 ≤ l4
    · have h := zift h c23
      exact g.tr (g_Mo_copy_56 n l0 l2 l3 (0 : Int32) M g.cl hR_l0 h)
    · have h := ziff h c23
      obtain ⟨h1, h⟩ := zif h
      have r1 : Rg (z_p M l0 40) := g.cl _ _ hR_l0
      have r2 : Rg (z_p M l0 41) := g.cl _ _ hR_l0
      obtain ⟨h2, h⟩ := zif h
      obtain ⟨h3, h⟩ := zif h
      obtain ⟨h4, h⟩ := zif h
      obtain ⟨h5, h⟩ := zif h
      obtain ⟨M6, e7, h⟩ := zlet_ex h
      have g := g.i r1 e7
      have h8 := k_i e7 h1
      have h9 := k_i e7 h2
      have h10 := k_i e7 h4
      obtain ⟨M11, e12, h⟩ := zlet_ex h
      have g := g.i hR_l0 e12
      have h13 := k_i e12 h8
      have h14 := k_i e12 h9
      have h15 := k_i e12 h10
      obtain ⟨M16, e17, h⟩ := zlet_ex h
      have g := g.i hR_l0 e17
      have h18 := k_i e17 h13
      have h19 := k_i e17 h14
      have h20 := k_i e17 h15
      obtain ⟨v21, e22, h⟩ := zlet_ex h
      exact g.tr (ih l0 l1 l2 l3 v21 M16 g.cl hR_l0 h)
set_option maxRecDepth 100000 in
set_option maxHeartbeats 4000000 in
theorem g_Mo_copy_0 {Rg : Nat → Prop} {O : zO} {q : Unit × zM} : ∀ (n : Nat) (l0 : Nat) (l1 : Int32) (l2 : Int32) (l3 : Int32) (M : zM), zCl Rg M → Rg l0 → f_Mo_copy_0 O n l0 l1 l2 l3 M = some q → zFr Rg M q.2 := by
  intro n l0 l1 l2 l3 M hcl hR_l0 h
  rw [f_Mo_copy_0] at h
  have g := zFr.rf hcl
  exact g.tr (g_Mo_copy_3 n l0 l1 l2 l3 (0 : Int32) M g.cl hR_l0 h)
theorem G_Mo_copy {Rg : Nat → Prop} {O : zO} {n : Nat} {l0 : Nat} {l1 : Int32} {l2 : Int32} {l3 : Int32} {M : zM} {q : Unit × zM} (hcl : zCl Rg M) (hR_l0 : Rg l0) (h : F_Mo_copy O n l0 l1 l2 l3 M = some q) : zFr Rg M q.2 := g_Mo_copy_0 n l0 l1 l2 l3 M hcl hR_l0 h

set_option maxRecDepth 100000 in
set_option maxHeartbeats 4000000 in
theorem g_Mo_rest_0 {Rg : Nat → Prop} {O : zO} {q : Unit × zM} : ∀ (n : Nat) (l0 : Nat) (M : zM), zCl Rg M → Rg l0 → f_Mo_rest_0 O n l0 M = some q → zFr Rg M q.2 := by
  intro n
  induction n with
  | zero => intro l0 M hcl hR_l0 h; rw [f_Mo_rest_0] at h; cases h
  | succ n ih =>
    intro l0 M hcl hR_l0 h
    rw [f_Mo_rest_0] at h
    have g := zFr.rf hcl
    obtain ⟨h1, h⟩ := zif h
    by_cases c21 : (z_i M l0 42) ≤ (z_i M l0 43)
    · have h := zift h c21
      obtain rfl := z_res h
      exact g
    · have h := ziff h c21
      have r1 : Rg (z_p M l0 40) := g.cl _ _ hR_l0
      have r2 : Rg (z_p M l0 41) := g.cl _ _ hR_l0
      obtain ⟨h2, h⟩ := zif h
      obtain ⟨h3, h⟩ := zif h
      obtain ⟨h4, h⟩ := zif h
      obtain ⟨h5, h⟩ := zif h
      obtain ⟨M6, e7, h⟩ := zlet_ex h
      have g := g.i r1 e7
      have h8 := k_i e7 h1
      have h9 := k_i e7 h2
      have h10 := k_i e7 h4
      obtain ⟨M11, e12, h⟩ := zlet_ex h
      have g := g.i hR_l0 e12
      have h13 := k_i e12 h8
      have h14 := k_i e12 h9
      have h15 := k_i e12 h10
      obtain ⟨M16, e17, h⟩ := zlet_ex h
      have g := g.i hR_l0 e17
      have h18 := k_i e17 h13
      have h19 := k_i e17 h14
      have h20 := k_i e17 h15
      exact g.tr (ih l0 M16 g.cl hR_l0 h)
theorem G_Mo_rest {Rg : Nat → Prop} {O : zO} {n : Nat} {l0 : Nat} {M : zM} {q : Unit × zM} (hcl : zCl Rg M) (hR_l0 : Rg l0) (h : F_Mo_rest O n l0 M = some q) : zFr Rg M q.2 := g_Mo_rest_0 n l0 M hcl hR_l0 h

set_option maxRecDepth 100000 in
set_option maxHeartbeats 4000000 in
theorem g_Mo_sequences_54 {Rg : Nat → Prop} {O : zO} {q : Int32 × zM} : ∀ (n : Nat) (l0 : Nat) (l3 : Int32) (M : zM), zCl Rg M → Rg l0 → f_Mo_sequences_54 O n l0 l3 M = some q → zFr Rg M q.2 := by
  intro n l0 l3 M hcl hR_l0 h
  rw [f_Mo_sequences_54] at h
  have g := zFr.rf hcl
  obtain ⟨h1, h⟩ := zif h
  obtain ⟨q2, c3, h⟩ := zbd h
  have g := g.tr (G_Mo_wrong g.cl hR_l0 c3)
  obtain ⟨h4, h⟩ := zif h
  obtain rfl := z_res h
  exact g
set_option maxRecDepth 100000 in
set_option maxHeartbeats 4000000 in
theorem g_Mo_sequences_412 {Rg : Nat → Prop} {O : zO} {q : Int32 × zM} {k116 : Nat → Int32 → Int32 → Int32 → Int32 → zM → Option (Int32 × zM)} (hk116 : ∀ (l0 : Nat) (l2 : Int32) (l3 : Int32) (l4 : Int32) (l5 : Int32) (M : zM), zCl Rg M → Rg l0 → k116 l0 l2 l3 l4 l5 M = some q → zFr Rg M q.2) : ∀ (n : Nat) (l0 : Nat) (l2 : Int32) (l3 : Int32) (l4 : Int32) (l5 : Int32) (l11 : Int64) (l13 : Int32) (l14 : Int32) (M : zM), zCl Rg M → Rg l0 → f_Mo_sequences_412 O k116 n l0 l2 l3 l4 l5 l11 l13 l14 M = some q → zFr Rg M q.2 := by
  intro n l0 l2 l3 l4 l5 l11 l13 l14 M hcl hR_l0 h
  rw [f_Mo_sequences_412] at h
  have g := zFr.rf hcl
  obtain ⟨h1, h⟩ := zif h
  by_cases c34 : l14 ≤ ((z_i M l0 42) - (z_i M l0 43))
  · have h := zift h c34
    obtain ⟨q2, c3, h⟩ := zbd h
    have g := g.tr (G_Mo_distanceOf g.cl hR_l0 c3)
    obtain ⟨h4, h⟩ := zif h
    obtain ⟨v5, e6, h⟩ := zlet_ex h
    obtain ⟨q7, c8, h⟩ := zbd h
    have g := g.tr (G_Mo_isTooFar g.cl hR_l0 c8)
    by_cases c30 : q7.1 = 0
    · have h := zift h c30
      obtain ⟨h9, h⟩ := zif h
      by_cases c25 : ((((z_i q7.2 l0 30) - l4) + l14) + l13) ≤ (z_i q7.2 l0 32)
      · have h := zift h c25
        by_cases c21 : (l14 + l13) ≤ ((z_i q7.2 l0 29) - (z_i q7.2 l0 30))
        · have h := zift h c21
          obtain ⟨q10, c11, h⟩ := zbd h
          have g := g.tr (G_Mo_copy g.cl hR_l0 c11)
          obtain ⟨h12, h⟩ := zif h
          obtain ⟨M13, e14, h⟩ := zlet_ex h
          have g := g.i hR_l0 e14
          have h15 := k_i e14 h12
          obtain ⟨v16, e17, h⟩ := zlet_ex h
          exact g.tr (hk116 l0 l2 l3 l4 v16 M13 g.cl hR_l0 h)
        · have h := ziff h c21
          obtain ⟨q18, c19, h⟩ := zbd h
          have g := g.tr (G_Mo_wrong g.cl hR_l0 c19)
          obtain ⟨h20, h⟩ := zif h
          obtain rfl := z_res h
          exact g
      · have h := ziff h c25
        obtain ⟨q22, c23, h⟩ := zbd h
        have g := g.tr (G_Mo_wrong g.cl hR_l0 c23)
        obtain ⟨h24, h⟩ := zif h
        obtain rfl := z_res h
        exact g
    · have h := ziff h c30
      obtain ⟨h26, h⟩ := zif h
      obtain ⟨q27, c28, h⟩ := zbd h
      have g := g.tr (G_Mo_wrong g.cl hR_l0 c28)
      obtain ⟨h29, h⟩ := zif h
      obtain rfl := z_res h
      exact g
  · have h := ziff h c34
    obtain ⟨q31, c32, h⟩ := zbd h
    have g := g.tr (G_Mo_wrong g.cl hR_l0 c32)
    obtain ⟨h33, h⟩ := zif h
    obtain rfl := z_res h
    exact g
set_option maxRecDepth 100000 in
set_option maxHeartbeats 4000000 in
theorem g_Mo_sequences_224 {Rg : Nat → Prop} {O : zO} {q : Int32 × zM} {k116 : Nat → Int32 → Int32 → Int32 → Int32 → zM → Option (Int32 × zM)} (hk116 : ∀ (l0 : Nat) (l2 : Int32) (l3 : Int32) (l4 : Int32) (l5 : Int32) (M : zM), zCl Rg M → Rg l0 → k116 l0 l2 l3 l4 l5 M = some q → zFr Rg M q.2) : ∀ (n : Nat) (l0 : Nat) (l2 : Int32) (l3 : Int32) (l4 : Int32) (l5 : Int32) (l6 : Int32) (l7 : Int32) (l8 : Int32) (l9 : Int32) (s0 : Int32) (M : zM), zCl Rg M → Rg l0 → f_Mo_sequences_224 O k116 n l0 l2 l3 l4 l5 l6 l7 l8 l9 s0 M = some q → zFr Rg M q.2 := by
  intro n l0 l2 l3 l4 l5 l6 l7 l8 l9 s0 M hcl hR_l0 h
  rw [f_Mo_sequences_224] at h
  have g := zFr.rf hcl
  obtain ⟨h1, h⟩ := zif h
  obtain ⟨q2, c3, h⟩ := zbd h
  have g := g.tr (G_Mo_matchBits g.cl c3)
  obtain ⟨q4, c5, h⟩ := zbd h
  have g := g.tr (G_Mo_literalBits g.cl c5)
  by_cases c65 : (((l7 + q2.1) + q4.1) + s0) ≤ (z_i M l0 48)
  · have h := zift h c65
    obtain ⟨h6, h⟩ := zif h
    obtain ⟨q7, c8, h⟩ := zbd h
    have g := g.tr (G_Mo_take g.cl hR_l0 c8)
    obtain ⟨v9, e10, h⟩ := zlet_ex h
    obtain ⟨q11, c12, h⟩ := zbd h
    have g := g.tr (G_Mo_matchBase g.cl c12)
    obtain ⟨q13, c14, h⟩ := zbd h
    have g := g.tr (G_Mo_matchBits g.cl c14)
    obtain ⟨h15, h⟩ := zif h
    obtain ⟨q16, c17, h⟩ := zbd h
    have g := g.tr (G_Mo_take g.cl hR_l0 c17)
    obtain ⟨v18, e19, h⟩ := zlet_ex h
    obtain ⟨q20, c21, h⟩ := zbd h
    have g := g.tr (G_Mo_literalBase g.cl c21)
    obtain ⟨q22, c23, h⟩ := zbd h
    have g := g.tr (G_Mo_literalBits g.cl c23)
    obtain ⟨h24, h⟩ := zif h
    obtain ⟨q25, c26, h⟩ := zbd h
    have g := g.tr (G_Mo_take g.cl hR_l0 c26)
    obtain ⟨v27, e28, h⟩ := zlet_ex h
    by_cases c60 : l9 = 0
    · have h := zift h c60
      obtain ⟨h29, h⟩ := zif h
      have r13 : Rg (z_p q25.2 l0 19) := g.cl _ _ hR_l0
      obtain ⟨h30, h⟩ := zif h
      obtain ⟨h31, h⟩ := zif h
      have r14 : Rg (z_p q25.2 l0 18) := g.cl _ _ hR_l0
      obtain ⟨h32, h⟩ := zif h
      obtain ⟨h33, h⟩ := zif h
      obtain ⟨q34, c35, h⟩ := zbd h
      have g := g.tr (G_Mo_take g.cl hR_l0 c35)
      obtain ⟨h36, h⟩ := zif h
      obtain ⟨M37, e38, h⟩ := zlet_ex h
      have g := g.i hR_l0 e38
      have h39 := k_i e38 h36
      have r15 : Rg (z_p M37 l0 19) := g.cl _ _ hR_l0
      obtain ⟨h40, h⟩ := zif h
      obtain ⟨h41, h⟩ := zif h
      have r16 : Rg (z_p M37 l0 18) := g.cl _ _ hR_l0
      obtain ⟨h42, h⟩ := zif h
      obtain ⟨h43, h⟩ := zif h
      obtain ⟨q44, c45, h⟩ := zbd h
      have g := g.tr (G_Mo_take g.cl hR_l0 c45)
      obtain ⟨h46, h⟩ := zif h
      obtain ⟨M47, e48, h⟩ := zlet_ex h
      have g := g.i hR_l0 e48
      have h49 := k_i e48 h46
      have r17 : Rg (z_p M47 l0 19) := g.cl _ _ hR_l0
      obtain ⟨h50, h⟩ := zif h
      obtain ⟨h51, h⟩ := zif h
      have r18 : Rg (z_p M47 l0 18) := g.cl _ _ hR_l0
      obtain ⟨h52, h⟩ := zif h
      obtain ⟨h53, h⟩ := zif h
      obtain ⟨q54, c55, h⟩ := zbd h
      have g := g.tr (G_Mo_take g.cl hR_l0 c55)
      obtain ⟨h56, h⟩ := zif h
      obtain ⟨M57, e58, h⟩ := zlet_ex h
      have g := g.i hR_l0 e58
      have h59 := k_i e58 h56
      exact g.tr (g_Mo_sequences_412 hk116 n l0 l2 l3 l4 l5 v9 v18 v27 M57 g.cl hR_l0 h)
    · have h := ziff h c60
      exact g.tr (g_Mo_sequences_412 hk116 n l0 l2 l3 l4 l5 v9 v18 v27 q25.2 g.cl hR_l0 h)
  · have h := ziff h c65
    obtain ⟨h61, h⟩ := zif h
    obtain ⟨q62, c63, h⟩ := zbd h
    have g := g.tr (G_Mo_wrong g.cl hR_l0 c63)
    obtain ⟨h64, h⟩ := zif h
    obtain rfl := z_res h
    exact g
set_option maxRecDepth 100000 in
set_option maxHeartbeats 4000000 in
theorem g_Mo_sequences_176 {Rg : Nat → Prop} {O : zO} {q : Int32 × zM} {k116 : Nat → Int32 → Int32 → Int32 → Int32 → zM → Option (Int32 × zM)} (hk116 : ∀ (l0 : Nat) (l2 : Int32) (l3 : Int32) (l4 : Int32) (l5 : Int32) (M : zM), zCl Rg M → Rg l0 → k116 l0 l2 l3 l4 l5 M = some q → zFr Rg M q.2) : ∀ (n : Nat) (l0 : Nat) (l2 : Int32) (l3 : Int32) (l4 : Int32) (l5 : Int32) (l6 : Int32) (l7 : Int32) (l8 : Int32) (s0 : Int32) (M : zM), zCl Rg M → Rg l0 → f_Mo_sequences_176 O k116 n l0 l2 l3 l4 l5 l6 l7 l8 s0 M = some q → zFr Rg M q.2 := by
  intro n l0 l2 l3 l4 l5 l6 l7 l8 s0 M hcl hR_l0 h
  rw [f_Mo_sequences_176] at h
  have g := zFr.rf hcl
  by_cases c6 : s0 = 0
  · have h := zift h c6
    obtain ⟨h1, h⟩ := zif h
    have r10 : Rg (z_p M l0 18) := g.cl _ _ hR_l0
    obtain ⟨h2, h⟩ := zif h
    obtain ⟨h3, h⟩ := zif h
    have r11 : Rg (z_p M l0 18) := g.cl _ _ hR_l0
    obtain ⟨h4, h⟩ := zif h
    have r12 : Rg (z_p M l0 18) := g.cl _ _ hR_l0
    obtain ⟨h5, h⟩ := zif h
    exact g.tr (g_Mo_sequences_224 hk116 n l0 l2 l3 l4 l5 l6 l7 l8 s0 (((z_i M (z_p M l0 18) (z_i M l0 44).toNatClampNeg) + (z_i M (z_p M l0 18) ((512 : Int32) + (z_i M l0 45)).toNatClampNeg)) + (z_i M (z_p M l0 18) ((1024 : Int32) + (z_i M l0 46)).toNatClampNeg)) M g.cl hR_l0 h)
  · have h := ziff h c6
    exact g.tr (g_Mo_sequences_224 hk116 n l0 l2 l3 l4 l5 l6 l7 l8 s0 (0 : Int32) M g.cl hR_l0 h)
set_option maxRecDepth 100000 in
set_option maxHeartbeats 4000000 in
theorem g_Mo_sequences_116 {Rg : Nat → Prop} {O : zO} {q : Int32 × zM} : ∀ (n : Nat) (l0 : Nat) (l2 : Int32) (l3 : Int32) (l4 : Int32) (l5 : Int32) (M : zM), zCl Rg M → Rg l0 → f_Mo_sequences_116 O n l0 l2 l3 l4 l5 M = some q → zFr Rg M q.2 := by
  intro n
  induction n with
  | zero => intro l0 l2 l3 l4 l5 M hcl hR_l0 h; rw [f_Mo_sequences_116] at h; cases h
  | succ n ih =>
    intro l0 l2 l3 l4 l5 M hcl hR_l0 h
    rw [f_Mo_sequences_116] at h
    have g := zFr.rf hcl
    by_cases c28 : l2 ≤ l5
    · have h := zift h c28
      obtain ⟨h1, h⟩ := zif h
      by_cases c15 : (z_i M l0 48) ≤ 0
      · have h := zift h c15
        by_cases c11 : ((((z_i M l0 30) - l4) + (z_i M l0 42)) - (z_i M l0 43)) ≤ (z_i M l0 32)
        · have h := zift h c11
          by_cases c7 : ((z_i M l0 42) - (z_i M l0 43)) ≤ ((z_i M l0 29) - (z_i M l0 30))
          · have h := zift h c7
            obtain ⟨q2, c3, h⟩ := zbd h
            have g := g.tr (G_Mo_rest g.cl hR_l0 c3)
            obtain rfl := z_res h
            exact g
          · have h := ziff h c7
            obtain ⟨q4, c5, h⟩ := zbd h
            have g := g.tr (G_Mo_wrong g.cl hR_l0 c5)
            obtain ⟨h6, h⟩ := zif h
            obtain rfl := z_res h
            exact g
        · have h := ziff h c11
          obtain ⟨q8, c9, h⟩ := zbd h
          have g := g.tr (G_Mo_wrong g.cl hR_l0 c9)
          obtain ⟨h10, h⟩ := zif h
          obtain rfl := z_res h
          exact g
      · have h := ziff h c15
        obtain ⟨q12, c13, h⟩ := zbd h
        have g := g.tr (G_Mo_wrong g.cl hR_l0 c13)
        obtain ⟨h14, h⟩ := zif h
        obtain rfl := z_res h
        exact g
    · have h := ziff h c28
      obtain ⟨h16, h⟩ := zif h
      have r7 : Rg (z_p M l0 17) := g.cl _ _ hR_l0
      obtain ⟨h17, h⟩ := zif h
      obtain ⟨h18, h⟩ := zif h
      obtain ⟨v19, e20, h⟩ := zlet_ex h
      have r8 : Rg (z_p M l0 17) := g.cl _ _ hR_l0
      obtain ⟨h21, h⟩ := zif h
      obtain ⟨v22, e23, h⟩ := zlet_ex h
      have r9 : Rg (z_p M l0 17) := g.cl _ _ hR_l0
      obtain ⟨h24, h⟩ := zif h
      obtain ⟨v25, e26, h⟩ := zlet_ex h
      by_cases c27 : l5 = (l2 - (1 : Int32))
      · have h := zift h c27
        exact g.tr (g_Mo_sequences_176 ih n l0 l2 l3 l4 l5 v19 v22 v25 (1 : Int32) M g.cl hR_l0 h)
      · have h := ziff h c27
        exact g.tr (g_Mo_sequences_176 ih n l0 l2 l3 l4 l5 v19 v22 v25 (0 : Int32) M g.cl hR_l0 h)
set_option maxRecDepth 100000 in
set_option maxHeartbeats 4000000 in
theorem g_Mo_sequences_0 {Rg : Nat → Prop} {O : zO} {q : Int32 × zM} : ∀ (n : Nat) (l0 : Nat) (l1 : Int32) (l2 : Int32) (M : zM), zCl Rg M → Rg l0 → f_Mo_sequences_0 O n l0 l1 l2 M = some q → zFr Rg M q.2 := by
  intro n l0 l1 l2 M hcl hR_l0 h
  rw [f_Mo_sequences_0] at h
  have g := zFr.rf hcl
  obtain ⟨h1, h⟩ := zif h
  obtain ⟨q2, c3, h⟩ := zbd h
  have g := g.tr (G_Mo_tables g.cl hR_l0 c3)
  by_cases c41 : q2.1 = 0
  · have h := zift h c41
    obtain rfl := z_res h
    exact g
  · have h := ziff h c41
    obtain ⟨h4, h⟩ := zif h
    obtain ⟨v5, e6, h⟩ := zlet_ex h
    obtain ⟨q7, c8, h⟩ := zbd h
    have g := g.tr (G_Mo_open g.cl hR_l0 c8)
    by_cases c40 : q7.1 = 0
    · have h := zift h c40
      exact g.tr (g_Mo_sequences_54 n l0 v5 q7.2 g.cl hR_l0 h)
    · have h := ziff h c40
      obtain ⟨h9, h⟩ := zif h
      have r1 : Rg (z_p q7.2 l0 16) := g.cl _ _ hR_l0
      obtain ⟨h10, h⟩ := zif h
      obtain ⟨h11, h⟩ := zif h
      have r2 : Rg (z_p q7.2 l0 16) := g.cl _ _ hR_l0
      obtain ⟨h12, h⟩ := zif h
      have r3 : Rg (z_p q7.2 l0 16) := g.cl _ _ hR_l0
      obtain ⟨h13, h⟩ := zif h
      by_cases c39 : (((z_i q7.2 (z_p q7.2 l0 16) (0 : Int32).toNatClampNeg) + (z_i q7.2 (z_p q7.2 l0 16) (1 : Int32).toNatClampNeg)) + (z_i q7.2 (z_p q7.2 l0 16) (2 : Int32).toNatClampNeg)) ≤ (z_i q7.2 l0 48)
      · have h := zift h c39
        have r4 : Rg (z_p q7.2 l0 16) := g.cl _ _ hR_l0
        obtain ⟨h14, h⟩ := zif h
        obtain ⟨q15, c16, h⟩ := zbd h
        have g := g.tr (G_Mo_take g.cl hR_l0 c16)
        obtain ⟨h17, h⟩ := zif h
        obtain ⟨M18, e19, h⟩ := zlet_ex h
        have g := g.i hR_l0 e19
        have h20 := k_i e19 h17
        have r5 : Rg (z_p M18 l0 16) := g.cl _ _ hR_l0
        obtain ⟨h21, h⟩ := zif h
        obtain ⟨h22, h⟩ := zif h
        obtain ⟨q23, c24, h⟩ := zbd h
        have g := g.tr (G_Mo_take g.cl hR_l0 c24)
        obtain ⟨h25, h⟩ := zif h
        obtain ⟨M26, e27, h⟩ := zlet_ex h
        have g := g.i hR_l0 e27
        have h28 := k_i e27 h25
        have r6 : Rg (z_p M26 l0 16) := g.cl _ _ hR_l0
        obtain ⟨h29, h⟩ := zif h
        obtain ⟨h30, h⟩ := zif h
        obtain ⟨q31, c32, h⟩ := zbd h
        have g := g.tr (G_Mo_take g.cl hR_l0 c32)
        obtain ⟨h33, h⟩ := zif h
        obtain ⟨M34, e35, h⟩ := zlet_ex h
        have g := g.i hR_l0 e35
        have h36 := k_i e35 h33
        obtain ⟨v37, e38, h⟩ := zlet_ex h
        exact g.tr (g_Mo_sequences_116 n l0 l2 v5 v37 (0 : Int32) M34 g.cl hR_l0 h)
      · have h := ziff h c39
        exact g.tr (g_Mo_sequences_54 n l0 v5 q7.2 g.cl hR_l0 h)
theorem G_Mo_sequences {Rg : Nat → Prop} {O : zO} {n : Nat} {l0 : Nat} {l1 : Int32} {l2 : Int32} {M : zM} {q : Int32 × zM} (hcl : zCl Rg M) (hR_l0 : Rg l0) (h : F_Mo_sequences O n l0 l1 l2 M = some q) : zFr Rg M q.2 := g_Mo_sequences_0 n l0 l1 l2 M hcl hR_l0 h

set_option maxRecDepth 100000 in
set_option maxHeartbeats 4000000 in
theorem g_Mo_packed_160 {Rg : Nat → Prop} {O : zO} {q : Int32 × zM} : ∀ (n : Nat) (l0 : Nat) (l1 : Int32) (l2 : Int32) (l4 : Int32) (M : zM), zCl Rg M → Rg l0 → f_Mo_packed_160 O n l0 l1 l2 l4 M = some q → zFr Rg M q.2 := by
  intro n l0 l1 l2 l4 M hcl hR_l0 h
  rw [f_Mo_packed_160] at h
  have g := zFr.rf hcl
  obtain ⟨h1, h⟩ := zif h
  obtain ⟨M2, e3, h⟩ := zlet_ex h
  have g := g.i hR_l0 e3
  have h4 := k_i e3 h1
  by_cases c18 : l4 ≤ 0
  · have h := zift h c18
    by_cases c14 : l1 ≤ (z_i M2 l0 28)
    · have h := zift h c14
      by_cases c10 : (z_i M2 l0 42) ≤ ((z_i M2 l0 29) - (z_i M2 l0 30))
      · have h := zift h c10
        obtain ⟨q5, c6, h⟩ := zbd h
        have g := g.tr (G_Mo_rest g.cl hR_l0 c6)
        obtain rfl := z_res h
        exact g
      · have h := ziff h c10
        obtain ⟨q7, c8, h⟩ := zbd h
        have g := g.tr (G_Mo_wrong g.cl hR_l0 c8)
        obtain ⟨h9, h⟩ := zif h
        obtain rfl := z_res h
        exact g
    · have h := ziff h c14
      obtain ⟨q11, c12, h⟩ := zbd h
      have g := g.tr (G_Mo_wrong g.cl hR_l0 c12)
      obtain ⟨h13, h⟩ := zif h
      obtain rfl := z_res h
      exact g
  · have h := ziff h c18
    obtain ⟨q15, c16, h⟩ := zbd h
    have g := g.tr (G_Mo_sequences g.cl hR_l0 c16)
    obtain ⟨h17, h⟩ := zif h
    obtain rfl := z_res h
    exact g
set_option maxRecDepth 100000 in
set_option maxHeartbeats 4000000 in
theorem g_Mo_packed_156 {Rg : Nat → Prop} {O : zO} {q : Int32 × zM} : ∀ (n : Nat) (l0 : Nat) (l1 : Int32) (l2 : Int32) (l4 : Int32) (s0 : Nat) (s1 : Int32) (s2 : Int32) (M : zM), zCl Rg M → Rg l0 → Rg s0 → f_Mo_packed_156 O n l0 l1 l2 l4 s0 s1 s2 M = some q → zFr Rg M q.2 := by
  intro n l0 l1 l2 l4 s0 s1 s2 M hcl hR_l0 hR_s0 h
  rw [f_Mo_packed_156] at h
  have g := zFr.rf hcl
  obtain ⟨h1, h⟩ := zif h
  obtain ⟨M2, e3, h⟩ := zlet_ex h
  have g := g.i hR_s0 e3
  have h4 := k_i e3 h1
  exact g.tr (g_Mo_packed_160 n l0 l1 l2 l4 M2 g.cl hR_l0 h)
set_option maxRecDepth 100000 in
set_option maxHeartbeats 4000000 in
theorem g_Mo_packed_137 {Rg : Nat → Prop} {O : zO} {q : Int32 × zM} : ∀ (n : Nat) (l0 : Nat) (l1 : Int32) (l2 : Int32) (l3 : Int32) (s0 : Int32) (M : zM), zCl Rg M → Rg l0 → f_Mo_packed_137 O n l0 l1 l2 l3 s0 M = some q → zFr Rg M q.2 := by
  intro n l0 l1 l2 l3 s0 M hcl hR_l0 h
  rw [f_Mo_packed_137] at h
  have g := zFr.rf hcl
  obtain ⟨h1, h⟩ := zif h
  by_cases c2 : l3 = (255 : Int32)
  · have h := zift h c2
    exact g.tr (g_Mo_packed_156 n l0 l1 l2 s0 l0 (z_i M l0 28) (2 : Int32) M g.cl hR_l0 hR_l0 h)
  · have h := ziff h c2
    exact g.tr (g_Mo_packed_156 n l0 l1 l2 s0 l0 (z_i M l0 28) (1 : Int32) M g.cl hR_l0 hR_l0 h)
set_option maxRecDepth 100000 in
set_option maxHeartbeats 4000000 in
theorem g_Mo_packed_83 {Rg : Nat → Prop} {O : zO} {q : Int32 × zM} : ∀ (n : Nat) (l0 : Nat) (l1 : Int32) (l2 : Int32) (l3 : Int32) (s0 : Int32) (s1 : Int32) (M : zM), zCl Rg M → Rg l0 → f_Mo_packed_83 O n l0 l1 l2 l3 s0 s1 M = some q → zFr Rg M q.2 := by
  intro n l0 l1 l2 l3 s0 s1 M hcl hR_l0 h
  rw [f_Mo_packed_83] at h
  have g := zFr.rf hcl
  by_cases c12 : s1 ≤ s0
  · have h := zift h c12
    by_cases c7 : l3 = (255 : Int32)
    · have h := zift h c7
      obtain ⟨h4, h⟩ := zif h
      obtain ⟨q5, c6, h⟩ := zbd h
      have g := g.tr (G_Mo_number g.cl hR_l0 c6)
      exact g.tr (g_Mo_packed_137 n l0 l1 l2 l3 (q5.1.toInt32 + (32512 : Int32)) q5.2 g.cl hR_l0 h)
    · have h := ziff h c7
      obtain ⟨h1, h⟩ := zif h
      have r2 : Rg (z_p M l0 0) := g.cl _ _ hR_l0
      obtain ⟨h2, h⟩ := zif h
      obtain ⟨h3, h⟩ := zif h
      exact g.tr (g_Mo_packed_137 n l0 l1 l2 l3 (((256 : Int32) * (l3 - (128 : Int32))) + (z_i M (z_p M l0 0) (z_i M l0 28).toNatClampNeg)) M g.cl hR_l0 h)
  · have h := ziff h c12
    obtain ⟨h8, h⟩ := zif h
    obtain ⟨q9, c10, h⟩ := zbd h
    have g := g.tr (G_Mo_wrong g.cl hR_l0 c10)
    obtain ⟨h11, h⟩ := zif h
    obtain rfl := z_res h
    exact g
set_option maxRecDepth 100000 in
set_option maxHeartbeats 4000000 in
theorem g_Mo_packed_0 {Rg : Nat → Prop} {O : zO} {q : Int32 × zM} : ∀ (n : Nat) (l0 : Nat) (l1 : Int32) (M : zM), zCl Rg M → Rg l0 → f_Mo_packed_0 O n l0 l1 M = some q → zFr Rg M q.2 := by
  intro n l0 l1 M hcl hR_l0 h
  rw [f_Mo_packed_0] at h
  have g := zFr.rf hcl
  obtain ⟨h1, h⟩ := zif h
  obtain ⟨v2, e3, h⟩ := zlet_ex h
  obtain ⟨M4, e5, h⟩ := zlet_ex h
  have g := g.i hR_l0 e5
  have h6 := k_i e5 h1
  obtain ⟨q7, c8, h⟩ := zbd h
  have g := g.tr (G_Mo_readLiterals g.cl hR_l0 c8)
  by_cases c24 : q7.1 = 0
  · have h := zift h c24
    obtain rfl := z_res h
    exact g
  · have h := ziff h c24
    obtain ⟨h9, h⟩ := zif h
    by_cases c23 : (z_i q7.2 l0 28) < l1
    · have h := zift h c23
      have r1 : Rg (z_p q7.2 l0 0) := g.cl _ _ hR_l0
      obtain ⟨h10, h⟩ := zif h
      obtain ⟨h11, h⟩ := zif h
      obtain ⟨v12, e13, h⟩ := zlet_ex h
      obtain ⟨M14, e15, h⟩ := zlet_ex h
      have g := g.i hR_l0 e15
      have h16 := k_i e15 h9
      have h17 := k_i e15 h10
      by_cases c19 : v12 ≤ (127 : Int32)
      · have h := zift h c19
        exact g.tr (g_Mo_packed_160 n l0 l1 v2 v12 M14 g.cl hR_l0 h)
      · have h := ziff h c19
        by_cases c18 : v12 = (255 : Int32)
        · have h := zift h c18
          exact g.tr (g_Mo_packed_83 n l0 l1 v2 v12 (l1 - (z_i M14 l0 28)) (2 : Int32) M14 g.cl hR_l0 h)
        · have h := ziff h c18
          exact g.tr (g_Mo_packed_83 n l0 l1 v2 v12 (l1 - (z_i M14 l0 28)) (1 : Int32) M14 g.cl hR_l0 h)
    · have h := ziff h c23
      obtain ⟨q20, c21, h⟩ := zbd h
      have g := g.tr (G_Mo_wrong g.cl hR_l0 c21)
      obtain ⟨h22, h⟩ := zif h
      obtain rfl := z_res h
      exact g
theorem G_Mo_packed {Rg : Nat → Prop} {O : zO} {n : Nat} {l0 : Nat} {l1 : Int32} {M : zM} {q : Int32 × zM} (hcl : zCl Rg M) (hR_l0 : Rg l0) (h : F_Mo_packed O n l0 l1 M = some q) : zFr Rg M q.2 := g_Mo_packed_0 n l0 l1 M hcl hR_l0 h

set_option maxRecDepth 100000 in
set_option maxHeartbeats 4000000 in
theorem g_Mo_block_207 {Rg : Nat → Prop} {O : zO} {q : Int32 × zM} : ∀ (n : Nat) (l0 : Nat) (l6 : Int32) (M : zM), zCl Rg M → Rg l0 → f_Mo_block_207 O n l0 l6 M = some q → zFr Rg M q.2 := by
  intro n l0 l6 M hcl hR_l0 h
  rw [f_Mo_block_207] at h
  have g := zFr.rf hcl
  obtain ⟨h1, h⟩ := zif h
  obtain ⟨M2, e3, h⟩ := zlet_ex h
  have g := g.i hR_l0 e3
  have h4 := k_i e3 h1
  obtain rfl := z_res h
  exact g
set_option maxRecDepth 100000 in
set_option maxHeartbeats 4000000 in
theorem g_Mo_block_189 {Rg : Nat → Prop} {O : zO} {q : Int32 × zM} {k151 : Nat → Int32 → Int32 → Int32 → Int32 → zM → Option (Int32 × zM)} (hk151 : ∀ (l0 : Nat) (l3 : Int32) (l4 : Int32) (l6 : Int32) (l7 : Int32) (M : zM), zCl Rg M → Rg l0 → k151 l0 l3 l4 l6 l7 M = some q → zFr Rg M q.2) : ∀ (n : Nat) (l0 : Nat) (l3 : Int32) (l4 : Int32) (l6 : Int32) (l7 : Int32) (s0 : Nat) (s1 : Int32) (s2 : Nat) (s3 : Int32) (M : zM), zCl Rg M → Rg l0 → Rg s0 → Rg s2 → f_Mo_block_189 O k151 n l0 l3 l4 l6 l7 s0 s1 s2 s3 M = some q → zFr Rg M q.2 := by
  intro n l0 l3 l4 l6 l7 s0 s1 s2 s3 M hcl hR_l0 hR_s0 hR_s2 h
  rw [f_Mo_block_189] at h
  have g := zFr.rf hcl
  obtain ⟨h1, h⟩ := zif h
  obtain ⟨h2, h⟩ := zif h
  obtain ⟨h3, h⟩ := zif h
  obtain ⟨h4, h⟩ := zif h
  obtain ⟨M5, e6, h⟩ := zlet_ex h
  have g := g.i hR_s0 e6
  have h7 := k_i e6 h1
  have h8 := k_i e6 h3
  obtain ⟨h9, h⟩ := zif h
  obtain ⟨M10, e11, h⟩ := zlet_ex h
  have g := g.i hR_l0 e11
  have h12 := k_i e11 h7
  have h13 := k_i e11 h8
  have h14 := k_i e11 h9
  obtain ⟨v15, e16, h⟩ := zlet_ex h
  exact g.tr (hk151 l0 l3 l4 l6 v15 M10 g.cl hR_l0 h)
set_option maxRecDepth 100000 in
set_option maxHeartbeats 4000000 in
theorem g_Mo_block_151 {Rg : Nat → Prop} {O : zO} {q : Int32 × zM} : ∀ (n : Nat) (l0 : Nat) (l3 : Int32) (l4 : Int32) (l6 : Int32) (l7 : Int32) (M : zM), zCl Rg M → Rg l0 → f_Mo_block_151 O n l0 l3 l4 l6 l7 M = some q → zFr Rg M q.2 := by
  intro n
  induction n with
  | zero => intro l0 l3 l4 l6 l7 M hcl hR_l0 h; rw [f_Mo_block_151] at h; cases h
  | succ n ih =>
    intro l0 l3 l4 l6 l7 M hcl hR_l0 h
    rw [f_Mo_block_151] at h
    have g := zFr.rf hcl
    by_cases c3 : l4 ≤ l7
    · have h := zift h c3
      exact g.tr (g_Mo_block_207 n l0 l6 M g.cl hR_l0 h)
    · have h := ziff h c3
      obtain ⟨h1, h⟩ := zif h
      have r1 : Rg (z_p M l0 40) := g.cl _ _ hR_l0
      have r2 : Rg (z_p M l0 0) := g.cl _ _ hR_l0
      by_cases c2 : l3 = (1 : Int32)
      · have h := zift h c2
        exact g.tr (g_Mo_block_189 ih n l0 l3 l4 l6 l7 (z_p M l0 40) (z_i M l0 30) (z_p M l0 0) (z_i M l0 28) M g.cl hR_l0 r1 r2 h)
      · have h := ziff h c2
        exact g.tr (g_Mo_block_189 ih n l0 l3 l4 l6 l7 (z_p M l0 40) (z_i M l0 30) (z_p M l0 0) ((z_i M l0 28) + l7) M g.cl hR_l0 r1 r2 h)
set_option maxRecDepth 100000 in
set_option maxHeartbeats 4000000 in
theorem g_Mo_block_88 {Rg : Nat → Prop} {O : zO} {q : Int32 × zM} : ∀ (n : Nat) (l0 : Nat) (l1 : Int32) (l3 : Int32) (l4 : Int32) (s0 : Int32) (M : zM), zCl Rg M → Rg l0 → f_Mo_block_88 O n l0 l1 l3 l4 s0 M = some q → zFr Rg M q.2 := by
  intro n l0 l1 l3 l4 s0 M hcl hR_l0 h
  rw [f_Mo_block_88] at h
  have g := zFr.rf hcl
  obtain ⟨h1, h⟩ := zif h
  obtain ⟨q2, c3, h⟩ := zbd h
  have g := g.tr (G_Mo_has g.cl hR_l0 c3)
  by_cases c15 : q2.1 = 0
  · have h := zift h c15
    obtain rfl := z_res h
    exact g
  · have h := ziff h c15
    obtain ⟨h4, h⟩ := zif h
    obtain ⟨v5, e6, h⟩ := zlet_ex h
    by_cases c14 : l3 = (2 : Int32)
    · have h := zift h c14
      obtain ⟨q11, c12, h⟩ := zbd h
      have g := g.tr (G_Mo_packed g.cl hR_l0 c12)
      by_cases c13 : q11.1 = 0
      · have h := zift h c13
        obtain rfl := z_res h
        exact g
      · have h := ziff h c13
        exact g.tr (g_Mo_block_207 n l0 v5 q11.2 g.cl hR_l0 h)
    · have h := ziff h c14
      by_cases c10 : l4 ≤ ((z_i q2.2 l0 29) - (z_i q2.2 l0 30))
      · have h := zift h c10
        exact g.tr (g_Mo_block_151 n l0 l3 l4 v5 (0 : Int32) q2.2 g.cl hR_l0 h)
      · have h := ziff h c10
        obtain ⟨q7, c8, h⟩ := zbd h
        have g := g.tr (G_Mo_wrong g.cl hR_l0 c8)
        obtain ⟨h9, h⟩ := zif h
        obtain rfl := z_res h
        exact g
set_option maxRecDepth 100000 in
set_option maxHeartbeats 4000000 in
theorem g_Mo_block_0 {Rg : Nat → Prop} {O : zO} {q : Int32 × zM} : ∀ (n : Nat) (l0 : Nat) (M : zM), zCl Rg M → Rg l0 → f_Mo_block_0 O n l0 M = some q → zFr Rg M q.2 := by
  intro n l0 M hcl hR_l0 h
  rw [f_Mo_block_0] at h
  have g := zFr.rf hcl
  obtain ⟨h1, h⟩ := zif h
  obtain ⟨M2, e3, h⟩ := zlet_ex h
  have g := g.i hR_l0 e3
  have h4 := k_i e3 h1
  obtain ⟨v5, e6, h⟩ := zlet_ex h
  obtain ⟨q7, c8, h⟩ := zbd h
  have g := g.tr (G_Mo_number g.cl hR_l0 c8)
  obtain ⟨v9, e10, h⟩ := zlet_ex h
  obtain ⟨v11, e12, h⟩ := zlet_ex h
  obtain ⟨v13, e14, h⟩ := zlet_ex h
  by_cases c28 : v11 = (3 : Int32)
  · have h := zift h c28
    obtain ⟨h24, h⟩ := zif h
    obtain ⟨q25, c26, h⟩ := zbd h
    have g := g.tr (G_Mo_wrong g.cl hR_l0 c26)
    obtain ⟨h27, h⟩ := zif h
    obtain rfl := z_res h
    exact g
  · have h := ziff h c28
    obtain ⟨h15, h⟩ := zif h
    by_cases c23 : v13 ≤ (z_i q7.2 l0 32)
    · have h := zift h c23
      obtain ⟨M16, e17, h⟩ := zlet_ex h
      have g := g.i hR_l0 e17
      have h18 := k_i e17 h15
      by_cases c19 : v11 = (1 : Int32)
      · have h := zift h c19
        exact g.tr (g_Mo_block_88 n l0 v5 v11 v13 (1 : Int32) M16 g.cl hR_l0 h)
      · have h := ziff h c19
        exact g.tr (g_Mo_block_88 n l0 v5 v11 v13 v13 M16 g.cl hR_l0 h)
    · have h := ziff h c23
      obtain ⟨q20, c21, h⟩ := zbd h
      have g := g.tr (G_Mo_wrong g.cl hR_l0 c21)
      obtain ⟨h22, h⟩ := zif h
      obtain rfl := z_res h
      exact g
theorem G_Mo_block {Rg : Nat → Prop} {O : zO} {n : Nat} {l0 : Nat} {M : zM} {q : Int32 × zM} (hcl : zCl Rg M) (hR_l0 : Rg l0) (h : F_Mo_block O n l0 M = some q) : zFr Rg M q.2 := g_Mo_block_0 n l0 M hcl hR_l0 h

set_option maxRecDepth 100000 in
set_option maxHeartbeats 4000000 in
theorem g_Mo_byteOf_0 {Rg : Nat → Prop} {O : zO} {q : Int64 × zM} : ∀ (n : Nat) (l0 : Nat) (l1 : Int32) (M : zM), zCl Rg M → Rg l0 → f_Mo_byteOf_0 O n l0 l1 M = some q → zFr Rg M q.2 := by
  intro n l0 l1 M hcl hR_l0 h
  rw [f_Mo_byteOf_0] at h
  have g := zFr.rf hcl
  obtain ⟨h1, h⟩ := zif h
  have r1 : Rg (z_p M l0 40) := g.cl _ _ hR_l0
  obtain ⟨h2, h⟩ := zif h
  obtain ⟨h3, h⟩ := zif h
  obtain rfl := z_res h
  exact g
theorem G_Mo_byteOf {Rg : Nat → Prop} {O : zO} {n : Nat} {l0 : Nat} {l1 : Int32} {M : zM} {q : Int64 × zM} (hcl : zCl Rg M) (hR_l0 : Rg l0) (h : F_Mo_byteOf O n l0 l1 M = some q) : zFr Rg M q.2 := g_Mo_byteOf_0 n l0 l1 M hcl hR_l0 h

set_option maxRecDepth 100000 in
set_option maxHeartbeats 4000000 in
theorem g_Mo_numberOf_7 {Rg : Nat → Prop} {O : zO} {q : Int64 × zM} : ∀ (n : Nat) (l0 : Nat) (l1 : Int32) (l3 : Int64) (l5 : Int32) (M : zM), zCl Rg M → Rg l0 → f_Mo_numberOf_7 O n l0 l1 l3 l5 M = some q → zFr Rg M q.2 := by
  intro n
  induction n with
  | zero => intro l0 l1 l3 l5 M hcl hR_l0 h; rw [f_Mo_numberOf_7] at h; cases h
  | succ n ih =>
    intro l0 l1 l3 l5 M hcl hR_l0 h
    rw [f_Mo_numberOf_7] at h
    have g := zFr.rf hcl
    by_cases c8 : l5 < 0
    · have h := zift h c8
      obtain rfl := z_res h
      exact g
    · have h := ziff h c8
      obtain ⟨h1, h⟩ := zif h
      obtain ⟨q2, c3, h⟩ := zbd h
      have g := g.tr (G_Mo_byteOf g.cl hR_l0 c3)
      obtain ⟨v4, e5, h⟩ := zlet_ex h
      obtain ⟨v6, e7, h⟩ := zlet_ex h
      exact g.tr (ih l0 l1 v4 v6 q2.2 g.cl hR_l0 h)
set_option maxRecDepth 100000 in
set_option maxHeartbeats 4000000 in
theorem g_Mo_numberOf_0 {Rg : Nat → Prop} {O : zO} {q : Int64 × zM} : ∀ (n : Nat) (l0 : Nat) (l1 : Int32) (l2 : Int32) (M : zM), zCl Rg M → Rg l0 → f_Mo_numberOf_0 O n l0 l1 l2 M = some q → zFr Rg M q.2 := by
  intro n l0 l1 l2 M hcl hR_l0 h
  rw [f_Mo_numberOf_0] at h
  have g := zFr.rf hcl
  obtain ⟨v1, e2, h⟩ := zlet_ex h
  exact g.tr (g_Mo_numberOf_7 n l0 l1 (0 : Int64) v1 M g.cl hR_l0 h)
theorem G_Mo_numberOf {Rg : Nat → Prop} {O : zO} {n : Nat} {l0 : Nat} {l1 : Int32} {l2 : Int32} {M : zM} {q : Int64 × zM} (hcl : zCl Rg M) (hR_l0 : Rg l0) (h : F_Mo_numberOf O n l0 l1 l2 M = some q) : zFr Rg M q.2 := g_Mo_numberOf_0 n l0 l1 l2 M hcl hR_l0 h

set_option maxRecDepth 100000 in
set_option maxHeartbeats 4000000 in
theorem g_Mo_rotated_0 {Rg : Nat → Prop} {O : zO} {q : Int64 × zM} : ∀ (n : Nat) (l0 : Int64) (l2 : Int32) (M : zM), zCl Rg M → f_Mo_rotated_0 O n l0 l2 M = some q → zFr Rg M q.2 := by
  intro n l0 l2 M hcl h
  rw [f_Mo_rotated_0] at h
  have g := zFr.rf hcl
  obtain rfl := z_res h
  exact g
theorem G_Mo_rotated {Rg : Nat → Prop} {O : zO} {n : Nat} {l0 : Int64} {l2 : Int32} {M : zM} {q : Int64 × zM} (hcl : zCl Rg M) (h : F_Mo_rotated O n l0 l2 M = some q) : zFr Rg M q.2 := g_Mo_rotated_0 n l0 l2 M hcl h

set_option maxRecDepth 100000 in
set_option maxHeartbeats 4000000 in
theorem g_Mo_sum_324 {Rg : Nat → Prop} {O : zO} {q : Int64 × zM} : ∀ (n : Nat) (l0 : Nat) (l2 : Int32) (l3 : Int64) (l5 : Int64) (l7 : Int64) (l11 : Int64) (l13 : Int32) (l14 : Int64) (M : zM), zCl Rg M → Rg l0 → f_Mo_sum_324 O n l0 l2 l3 l5 l7 l11 l13 l14 M = some q → zFr Rg M q.2 := by
  intro n
  induction n with
  | zero => intro l0 l2 l3 l5 l7 l11 l13 l14 M hcl hR_l0 h; rw [f_Mo_sum_324] at h; cases h
  | succ n ih =>
    intro l0 l2 l3 l5 l7 l11 l13 l14 M hcl hR_l0 h
    rw [f_Mo_sum_324] at h
    have g := zFr.rf hcl
    by_cases c14 : l2 ≤ l13
    · have h := zift h c14
      obtain ⟨v1, e2, h⟩ := zlet_ex h
      obtain ⟨v3, e4, h⟩ := zlet_ex h
      obtain rfl := z_res h
      exact g
    · have h := ziff h c14
      obtain ⟨h5, h⟩ := zif h
      obtain ⟨q6, c7, h⟩ := zbd h
      have g := g.tr (G_Mo_byteOf g.cl hR_l0 c7)
      obtain ⟨q8, c9, h⟩ := zbd h
      have g := g.tr (G_Mo_rotated g.cl c9)
      obtain ⟨v10, e11, h⟩ := zlet_ex h
      obtain ⟨v12, e13, h⟩ := zlet_ex h
      exact g.tr (ih l0 l2 l3 l5 l7 l11 v12 v10 q8.2 g.cl hR_l0 h)
set_option maxRecDepth 100000 in
set_option maxHeartbeats 4000000 in
theorem g_Mo_sum_240 {Rg : Nat → Prop} {O : zO} {q : Int64 × zM} : ∀ (n : Nat) (l0 : Nat) (l2 : Int32) (l3 : Int64) (l5 : Int64) (l7 : Int64) (l9 : Int64) (l11 : Int64) (l13 : Int32) (l14 : Int64) (M : zM), zCl Rg M → Rg l0 → f_Mo_sum_240 O n l0 l2 l3 l5 l7 l9 l11 l13 l14 M = some q → zFr Rg M q.2 := by
  intro n
  induction n with
  | zero => intro l0 l2 l3 l5 l7 l9 l11 l13 l14 M hcl hR_l0 h; rw [f_Mo_sum_240] at h; cases h
  | succ n ih =>
    intro l0 l2 l3 l5 l7 l9 l11 l13 l14 M hcl hR_l0 h
    rw [f_Mo_sum_240] at h
    have g := zFr.rf hcl
    by_cases c22 : (l2 - l13) < (8 : Int32)
    · have h := zift h c22
      by_cases c10 : (l2 - l13) < (4 : Int32)
      · have h := zift h c10
        exact g.tr (g_Mo_sum_324 n l0 l2 l3 l5 l7 l11 l13 l14 M g.cl hR_l0 h)
      · have h := ziff h c10
        obtain ⟨h1, h⟩ := zif h
        obtain ⟨q2, c3, h⟩ := zbd h
        have g := g.tr (G_Mo_numberOf g.cl hR_l0 c3)
        obtain ⟨q4, c5, h⟩ := zbd h
        have g := g.tr (G_Mo_rotated g.cl c5)
        obtain ⟨v6, e7, h⟩ := zlet_ex h
        obtain ⟨v8, e9, h⟩ := zlet_ex h
        exact g.tr (g_Mo_sum_324 n l0 l2 l3 l5 l7 l11 v8 v6 q4.2 g.cl hR_l0 h)
    · have h := ziff h c22
      obtain ⟨h11, h⟩ := zif h
      obtain ⟨q12, c13, h⟩ := zbd h
      have g := g.tr (G_Mo_numberOf g.cl hR_l0 c13)
      obtain ⟨q14, c15, h⟩ := zbd h
      have g := g.tr (G_Mo_rotated g.cl c15)
      obtain ⟨q16, c17, h⟩ := zbd h
      have g := g.tr (G_Mo_rotated g.cl c17)
      obtain ⟨v18, e19, h⟩ := zlet_ex h
      obtain ⟨v20, e21, h⟩ := zlet_ex h
      exact g.tr (ih l0 l2 l3 l5 l7 l9 l11 v20 v18 q16.2 g.cl hR_l0 h)
set_option maxRecDepth 100000 in
set_option maxHeartbeats 4000000 in
theorem g_Mo_sum_231 {Rg : Nat → Prop} {O : zO} {q : Int64 × zM} : ∀ (n : Nat) (l0 : Nat) (l1 : Int32) (l2 : Int32) (l3 : Int64) (l5 : Int64) (l7 : Int64) (l9 : Int64) (l11 : Int64) (l13 : Int32) (l14 : Int64) (M : zM), zCl Rg M → Rg l0 → f_Mo_sum_231 O n l0 l1 l2 l3 l5 l7 l9 l11 l13 l14 M = some q → zFr Rg M q.2 := by
  intro n l0 l1 l2 l3 l5 l7 l9 l11 l13 l14 M hcl hR_l0 h
  rw [f_Mo_sum_231] at h
  have g := zFr.rf hcl
  obtain ⟨v1, e2, h⟩ := zlet_ex h
  exact g.tr (g_Mo_sum_240 n l0 l2 l3 l5 l7 l9 l11 l13 v1 M g.cl hR_l0 h)
set_option maxRecDepth 100000 in
set_option maxHeartbeats 4000000 in
theorem g_Mo_sum_192 {Rg : Nat → Prop} {O : zO} {q : Int64 × zM} : ∀ (n : Nat) (l0 : Nat) (l1 : Int32) (l2 : Int32) (l3 : Int64) (l5 : Int64) (l7 : Int64) (l9 : Int64) (l11 : Int64) (l13 : Int32) (l14 : Int64) (l16 : Int32) (M : zM), zCl Rg M → Rg l0 → f_Mo_sum_192 O n l0 l1 l2 l3 l5 l7 l9 l11 l13 l14 l16 M = some q → zFr Rg M q.2 := by
  intro n
  induction n with
  | zero => intro l0 l1 l2 l3 l5 l7 l9 l11 l13 l14 l16 M hcl hR_l0 h; rw [f_Mo_sum_192] at h; cases h
  | succ n ih =>
    intro l0 l1 l2 l3 l5 l7 l9 l11 l13 l14 l16 M hcl hR_l0 h
    rw [f_Mo_sum_192] at h
    have g := zFr.rf hcl
    by_cases c10 : (4 : Int32) ≤ l16
    · have h := zift h c10
      exact g.tr (g_Mo_sum_231 n l0 l1 l2 l3 l5 l7 l9 l11 l13 l14 M g.cl hR_l0 h)
    · have h := ziff h c10
      obtain ⟨h1, h⟩ := zif h
      have r9 : Rg (z_p M l0 49) := g.cl _ _ hR_l0
      obtain ⟨h2, h⟩ := zif h
      obtain ⟨h3, h⟩ := zif h
      obtain ⟨q4, c5, h⟩ := zbd h
      have g := g.tr (G_Mo_rotated g.cl c5)
      obtain ⟨v6, e7, h⟩ := zlet_ex h
      obtain ⟨v8, e9, h⟩ := zlet_ex h
      exact g.tr (ih l0 l1 l2 l3 l5 l7 l9 l11 l13 v6 v8 q4.2 g.cl hR_l0 h)
set_option maxRecDepth 100000 in
set_option maxHeartbeats 4000000 in
theorem g_Mo_sum_84 {Rg : Nat → Prop} {O : zO} {q : Int64 × zM} {k72 : Nat → Int32 → Int32 → Int64 → Int64 → Int64 → Int64 → Int64 → Int32 → zM → Option (Int64 × zM)} (hk72 : ∀ (l0 : Nat) (l1 : Int32) (l2 : Int32) (l3 : Int64) (l5 : Int64) (l7 : Int64) (l9 : Int64) (l11 : Int64) (l13 : Int32) (M : zM), zCl Rg M → Rg l0 → k72 l0 l1 l2 l3 l5 l7 l9 l11 l13 M = some q → zFr Rg M q.2) : ∀ (n : Nat) (l0 : Nat) (l1 : Int32) (l2 : Int32) (l3 : Int64) (l5 : Int64) (l7 : Int64) (l9 : Int64) (l11 : Int64) (l13 : Int32) (l16 : Int32) (M : zM), zCl Rg M → Rg l0 → f_Mo_sum_84 O k72 n l0 l1 l2 l3 l5 l7 l9 l11 l13 l16 M = some q → zFr Rg M q.2 := by
  intro n
  induction n with
  | zero => intro l0 l1 l2 l3 l5 l7 l9 l11 l13 l16 M hcl hR_l0 h; rw [f_Mo_sum_84] at h; cases h
  | succ n ih =>
    intro l0 l1 l2 l3 l5 l7 l9 l11 l13 l16 M hcl hR_l0 h
    rw [f_Mo_sum_84] at h
    have g := zFr.rf hcl
    by_cases c17 : (4 : Int32) ≤ l16
    · have h := zift h c17
      obtain ⟨v1, e2, h⟩ := zlet_ex h
      exact g.tr (hk72 l0 l1 l2 l3 l5 l7 l9 l11 v1 M g.cl hR_l0 h)
    · have h := ziff h c17
      obtain ⟨h3, h⟩ := zif h
      have r10 : Rg (z_p M l0 49) := g.cl _ _ hR_l0
      have r11 : Rg (z_p M l0 49) := g.cl _ _ hR_l0
      obtain ⟨h4, h⟩ := zif h
      obtain ⟨h5, h⟩ := zif h
      obtain ⟨q6, c7, h⟩ := zbd h
      have g := g.tr (G_Mo_numberOf g.cl hR_l0 c7)
      obtain ⟨q8, c9, h⟩ := zbd h
      have g := g.tr (G_Mo_rotated g.cl c9)
      obtain ⟨h10, h⟩ := zif h
      obtain ⟨h11, h⟩ := zif h
      obtain ⟨M12, e13, h⟩ := zlet_ex h
      have g := g.j r11 e13
      have h14 := k_j e13 h10
      obtain ⟨v15, e16, h⟩ := zlet_ex h
      exact g.tr (ih l0 l1 l2 l3 l5 l7 l9 l11 l13 v15 M12 g.cl hR_l0 h)
set_option maxRecDepth 100000 in
set_option maxHeartbeats 4000000 in
theorem g_Mo_sum_72 {Rg : Nat → Prop} {O : zO} {q : Int64 × zM} : ∀ (n : Nat) (l0 : Nat) (l1 : Int32) (l2 : Int32) (l3 : Int64) (l5 : Int64) (l7 : Int64) (l9 : Int64) (l11 : Int64) (l13 : Int32) (M : zM), zCl Rg M → Rg l0 → f_Mo_sum_72 O n l0 l1 l2 l3 l5 l7 l9 l11 l13 M = some q → zFr Rg M q.2 := by
  intro n
  induction n with
  | zero => intro l0 l1 l2 l3 l5 l7 l9 l11 l13 M hcl hR_l0 h; rw [f_Mo_sum_72] at h; cases h
  | succ n ih =>
    intro l0 l1 l2 l3 l5 l7 l9 l11 l13 M hcl hR_l0 h
    rw [f_Mo_sum_72] at h
    have g := zFr.rf hcl
    by_cases c23 : (l2 - l13) < (32 : Int32)
    · have h := zift h c23
      obtain ⟨h1, h⟩ := zif h
      have r5 : Rg (z_p M l0 49) := g.cl _ _ hR_l0
      obtain ⟨h2, h⟩ := zif h
      obtain ⟨h3, h⟩ := zif h
      obtain ⟨q4, c5, h⟩ := zbd h
      have g := g.tr (G_Mo_rotated g.cl c5)
      obtain ⟨h6, h⟩ := zif h
      have r6 : Rg (z_p q4.2 l0 49) := g.cl _ _ hR_l0
      obtain ⟨h7, h⟩ := zif h
      obtain ⟨h8, h⟩ := zif h
      obtain ⟨q9, c10, h⟩ := zbd h
      have g := g.tr (G_Mo_rotated g.cl c10)
      obtain ⟨h11, h⟩ := zif h
      have r7 : Rg (z_p q9.2 l0 49) := g.cl _ _ hR_l0
      obtain ⟨h12, h⟩ := zif h
      obtain ⟨h13, h⟩ := zif h
      obtain ⟨q14, c15, h⟩ := zbd h
      have g := g.tr (G_Mo_rotated g.cl c15)
      obtain ⟨h16, h⟩ := zif h
      have r8 : Rg (z_p q14.2 l0 49) := g.cl _ _ hR_l0
      obtain ⟨h17, h⟩ := zif h
      obtain ⟨h18, h⟩ := zif h
      obtain ⟨q19, c20, h⟩ := zbd h
      have g := g.tr (G_Mo_rotated g.cl c20)
      obtain ⟨v21, e22, h⟩ := zlet_ex h
      exact g.tr (g_Mo_sum_192 n l0 l1 l2 l3 l5 l7 l9 l11 l13 v21 (0 : Int32) q19.2 g.cl hR_l0 h)
    · have h := ziff h c23
      exact g.tr (g_Mo_sum_84 ih n l0 l1 l2 l3 l5 l7 l9 l11 l13 (0 : Int32) M g.cl hR_l0 h)
set_option maxRecDepth 100000 in
set_option maxHeartbeats 4000000 in
theorem g_Mo_sum_0 {Rg : Nat → Prop} {O : zO} {q : Int64 × zM} : ∀ (n : Nat) (l0 : Nat) (l1 : Int32) (l2 : Int32) (M : zM), zCl Rg M → Rg l0 → f_Mo_sum_0 O n l0 l1 l2 M = some q → zFr Rg M q.2 := by
  intro n l0 l1 l2 M hcl hR_l0 h
  rw [f_Mo_sum_0] at h
  have g := zFr.rf hcl
  by_cases c32 : (l2 - l1) < (32 : Int32)
  · have h := zift h c32
    exact g.tr (g_Mo_sum_231 n l0 l1 l2 (-7046029288634856825 : Int64) (-4417276706812531889 : Int64) (1609587929392839161 : Int64) (-8796714831421723037 : Int64) (2870177450012600261 : Int64) l1 (2870177450012600261 : Int64) M g.cl hR_l0 h)
  · have h := ziff h c32
    obtain ⟨h1, h⟩ := zif h
    have r1 : Rg (z_p M l0 49) := g.cl _ _ hR_l0
    obtain ⟨h2, h⟩ := zif h
    obtain ⟨h3, h⟩ := zif h
    obtain ⟨M4, e5, h⟩ := zlet_ex h
    have g := g.j r1 e5
    have h6 := k_j e5 h1
    have h7 := k_j e5 h2
    have r2 : Rg (z_p M4 l0 49) := g.cl _ _ hR_l0
    obtain ⟨h8, h⟩ := zif h
    obtain ⟨h9, h⟩ := zif h
    obtain ⟨M10, e11, h⟩ := zlet_ex h
    have g := g.j r2 e11
    have h12 := k_j e11 h6
    have h13 := k_j e11 h7
    have h14 := k_j e11 h8
    have r3 : Rg (z_p M10 l0 49) := g.cl _ _ hR_l0
    obtain ⟨h15, h⟩ := zif h
    obtain ⟨h16, h⟩ := zif h
    obtain ⟨M17, e18, h⟩ := zlet_ex h
    have g := g.j r3 e18
    have h19 := k_j e18 h12
    have h20 := k_j e18 h13
    have h21 := k_j e18 h14
    have h22 := k_j e18 h15
    have r4 : Rg (z_p M17 l0 49) := g.cl _ _ hR_l0
    obtain ⟨h23, h⟩ := zif h
    obtain ⟨h24, h⟩ := zif h
    obtain ⟨M25, e26, h⟩ := zlet_ex h
    have g := g.j r4 e26
    have h27 := k_j e26 h19
    have h28 := k_j e26 h20
    have h29 := k_j e26 h21
    have h30 := k_j e26 h22
    have h31 := k_j e26 h23
    exact g.tr (g_Mo_sum_72 n l0 l1 l2 (-7046029288634856825 : Int64) (-4417276706812531889 : Int64) (1609587929392839161 : Int64) (-8796714831421723037 : Int64) (2870177450012600261 : Int64) l1 M25 g.cl hR_l0 h)
theorem G_Mo_sum {Rg : Nat → Prop} {O : zO} {n : Nat} {l0 : Nat} {l1 : Int32} {l2 : Int32} {M : zM} {q : Int64 × zM} (hcl : zCl Rg M) (hR_l0 : Rg l0) (h : F_Mo_sum O n l0 l1 l2 M = some q) : zFr Rg M q.2 := g_Mo_sum_0 n l0 l1 l2 M hcl hR_l0 h

set_option maxRecDepth 100000 in
set_option maxHeartbeats 4000000 in
theorem g_Mo_frame_524 {Rg : Nat → Prop} {O : zO} {q : Int32 × zM} : ∀ (n : Nat) (s0 : Int32) (M : zM), zCl Rg M → f_Mo_frame_524 O n s0 M = some q → zFr Rg M q.2 := by
  intro n s0 M hcl h
  rw [f_Mo_frame_524] at h
  have g := zFr.rf hcl
  obtain ⟨h1, h⟩ := zif h
  obtain rfl := z_res h
  exact g
set_option maxRecDepth 100000 in
set_option maxHeartbeats 4000000 in
theorem g_Mo_frame_519 {Rg : Nat → Prop} {O : zO} {q : Int32 × zM} : ∀ (n : Nat) (M : zM), zCl Rg M → f_Mo_frame_519 O n M = some q → zFr Rg M q.2 := by
  intro n M hcl h
  rw [f_Mo_frame_519] at h
  have g := zFr.rf hcl
  exact g.tr (g_Mo_frame_524 n (1 : Int32) M g.cl h)
set_option maxRecDepth 100000 in
set_option maxHeartbeats 4000000 in
theorem g_Mo_frame_487 {Rg : Nat → Prop} {O : zO} {q : Int32 × zM} : ∀ (n : Nat) (l0 : Nat) (l6 : Int32) (l7 : Int64) (l9 : Int32) (M : zM), zCl Rg M → Rg l0 → f_Mo_frame_487 O n l0 l6 l7 l9 M = some q → zFr Rg M q.2 := by
  intro n l0 l6 l7 l9 M hcl hR_l0 h
  rw [f_Mo_frame_487] at h
  have g := zFr.rf hcl
  by_cases c6 : l6 = 0
  · have h := zift h c6
    exact g.tr (g_Mo_frame_519 n M g.cl h)
  · have h := ziff h c6
    obtain ⟨h1, h⟩ := zif h
    by_cases c5 : (lg_cmp l7 ((z_i M l0 30) - (z_i M l0 31)).toInt64) = 0
    · have h := zift h c5
      exact g.tr (g_Mo_frame_519 n M g.cl h)
    · have h := ziff h c5
      obtain ⟨q2, c3, h⟩ := zbd h
      have g := g.tr (G_Mo_wrong g.cl hR_l0 c3)
      by_cases c4 : q2.1 = 0
      · have h := zift h c4
        exact g.tr (g_Mo_frame_524 n (0 : Int32) q2.2 g.cl h)
      · have h := ziff h c4
        exact g.tr (g_Mo_frame_519 n q2.2 g.cl h)
set_option maxRecDepth 100000 in
set_option maxHeartbeats 4000000 in
theorem g_Mo_frame_410 {Rg : Nat → Prop} {O : zO} {q : Int32 × zM} {k375 : Nat → Int32 → Int32 → Int64 → Int32 → Int32 → zM → Option (Int32 × zM)} (hk375 : ∀ (l0 : Nat) (l1 : Int32) (l6 : Int32) (l7 : Int64) (l9 : Int32) (l10 : Int32) (M : zM), zCl Rg M → Rg l0 → k375 l0 l1 l6 l7 l9 l10 M = some q → zFr Rg M q.2) : ∀ (n : Nat) (l0 : Nat) (l1 : Int32) (l6 : Int32) (l7 : Int64) (l9 : Int32) (s0 : Int32) (M : zM), zCl Rg M → Rg l0 → f_Mo_frame_410 O k375 n l0 l1 l6 l7 l9 s0 M = some q → zFr Rg M q.2 := by
  intro n l0 l1 l6 l7 l9 s0 M hcl hR_l0 h
  rw [f_Mo_frame_410] at h
  have g := zFr.rf hcl
  obtain ⟨h1, h⟩ := zif h
  obtain ⟨q2, c3, h⟩ := zbd h
  have g := g.tr (G_Mo_block g.cl hR_l0 c3)
  by_cases c4 : q2.1 = 0
  · have h := zift h c4
    obtain rfl := z_res h
    exact g
  · have h := ziff h c4
    exact g.tr (hk375 l0 l1 l6 l7 l9 s0 q2.2 g.cl hR_l0 h)
set_option maxRecDepth 100000 in
set_option maxHeartbeats 4000000 in
theorem g_Mo_frame_375 {Rg : Nat → Prop} {O : zO} {q : Int32 × zM} : ∀ (n : Nat) (l0 : Nat) (l1 : Int32) (l6 : Int32) (l7 : Int64) (l9 : Int32) (l10 : Int32) (M : zM), zCl Rg M → Rg l0 → f_Mo_frame_375 O n l0 l1 l6 l7 l9 l10 M = some q → zFr Rg M q.2 := by
  intro n
  induction n with
  | zero => intro l0 l1 l6 l7 l9 l10 M hcl hR_l0 h; rw [f_Mo_frame_375] at h; cases h
  | succ n ih =>
    intro l0 l1 l6 l7 l9 l10 M hcl hR_l0 h
    rw [f_Mo_frame_375] at h
    have g := zFr.rf hcl
    by_cases c29 : l10 = 0
    · have h := zift h c29
      obtain ⟨h21, h⟩ := zif h
      obtain ⟨q22, c23, h⟩ := zbd h
      have g := g.tr (G_Mo_has g.cl hR_l0 c23)
      by_cases c28 : q22.1 = 0
      · have h := zift h c28
        obtain rfl := z_res h
        exact g
      · have h := ziff h c28
        obtain ⟨h24, h⟩ := zif h
        have r4 : Rg (z_p q22.2 l0 0) := g.cl _ _ hR_l0
        obtain ⟨h25, h⟩ := zif h
        obtain ⟨h26, h⟩ := zif h
        by_cases c27 : ((z_i q22.2 (z_p q22.2 l0 0) (z_i q22.2 l0 28).toNatClampNeg) - (z_i q22.2 (z_p q22.2 l0 0) (z_i q22.2 l0 28).toNatClampNeg) / (2 : Int32) * (2 : Int32)) = (1 : Int32)
        · have h := zift h c27
          exact g.tr (g_Mo_frame_410 ih n l0 l1 l6 l7 l9 (1 : Int32) q22.2 g.cl hR_l0 h)
        · have h := ziff h c27
          exact g.tr (g_Mo_frame_410 ih n l0 l1 l6 l7 l9 (0 : Int32) q22.2 g.cl hR_l0 h)
    · have h := ziff h c29
      by_cases c20 : ((l1 / (4 : Int32)) - (l1 / (4 : Int32)) / (2 : Int32) * (2 : Int32)) = (1 : Int32)
      · have h := zift h c20
        obtain ⟨h1, h⟩ := zif h
        obtain ⟨q2, c3, h⟩ := zbd h
        have g := g.tr (G_Mo_has g.cl hR_l0 c3)
        by_cases c19 : q2.1 = 0
        · have h := zift h c19
          obtain rfl := z_res h
          exact g
        · have h := ziff h c19
          obtain ⟨h4, h⟩ := zif h
          obtain ⟨q5, c6, h⟩ := zbd h
          have g := g.tr (G_Mo_number g.cl hR_l0 c6)
          obtain ⟨h7, h⟩ := zif h
          obtain ⟨q8, c9, h⟩ := zbd h
          have g := g.tr (G_Mo_sum g.cl hR_l0 c9)
          by_cases c18 : q5.1.toInt32 = q8.1.toInt32
          · have h := zift h c18
            obtain ⟨h10, h⟩ := zif h
            obtain ⟨M11, e12, h⟩ := zlet_ex h
            have g := g.i hR_l0 e12
            have h13 := k_i e12 h10
            exact g.tr (g_Mo_frame_487 n l0 l6 l7 l9 M11 g.cl hR_l0 h)
          · have h := ziff h c18
            obtain ⟨h14, h⟩ := zif h
            obtain ⟨q15, c16, h⟩ := zbd h
            have g := g.tr (G_Mo_wrong g.cl hR_l0 c16)
            obtain ⟨h17, h⟩ := zif h
            obtain rfl := z_res h
            exact g
      · have h := ziff h c20
        exact g.tr (g_Mo_frame_487 n l0 l6 l7 l9 M g.cl hR_l0 h)
set_option maxRecDepth 100000 in
set_option maxHeartbeats 4000000 in
theorem g_Mo_frame_357 {Rg : Nat → Prop} {O : zO} {q : Int32 × zM} : ∀ (n : Nat) (l0 : Nat) (l1 : Int32) (l6 : Int32) (l7 : Int64) (l9 : Int32) (s0 : Nat) (s1 : Int32) (M : zM), zCl Rg M → Rg l0 → Rg s0 → f_Mo_frame_357 O n l0 l1 l6 l7 l9 s0 s1 M = some q → zFr Rg M q.2 := by
  intro n l0 l1 l6 l7 l9 s0 s1 M hcl hR_l0 hR_s0 h
  rw [f_Mo_frame_357] at h
  have g := zFr.rf hcl
  obtain ⟨h1, h⟩ := zif h
  obtain ⟨M2, e3, h⟩ := zlet_ex h
  have g := g.i hR_s0 e3
  have h4 := k_i e3 h1
  obtain ⟨h5, h⟩ := zif h
  obtain ⟨q6, c7, h⟩ := zbd h
  have g := g.tr (G_Mo_beginFrame g.cl hR_l0 c7)
  obtain ⟨h8, h⟩ := zif h
  obtain ⟨M9, e10, h⟩ := zlet_ex h
  have g := g.i hR_l0 e10
  have h11 := k_i e10 h8
  exact g.tr (g_Mo_frame_375 n l0 l1 l6 l7 l9 (0 : Int32) M9 g.cl hR_l0 h)
set_option maxRecDepth 100000 in
set_option maxHeartbeats 4000000 in
theorem g_Mo_frame_347 {Rg : Nat → Prop} {O : zO} {q : Int32 × zM} : ∀ (n : Nat) (l0 : Nat) (l1 : Int32) (l6 : Int32) (l7 : Int64) (l9 : Int32) (s0 : Nat) (M : zM), zCl Rg M → Rg l0 → Rg s0 → f_Mo_frame_347 O n l0 l1 l6 l7 l9 s0 M = some q → zFr Rg M q.2 := by
  intro n l0 l1 l6 l7 l9 s0 M hcl hR_l0 hR_s0 h
  rw [f_Mo_frame_347] at h
  have g := zFr.rf hcl
  exact g.tr (g_Mo_frame_357 n l0 l1 l6 l7 l9 s0 (131072 : Int32) M g.cl hR_l0 hR_s0 h)
set_option maxRecDepth 100000 in
set_option maxHeartbeats 4000000 in
theorem g_Mo_frame_326 {Rg : Nat → Prop} {O : zO} {q : Int32 × zM} : ∀ (n : Nat) (l0 : Nat) (l1 : Int32) (l6 : Int32) (l7 : Int64) (l9 : Int32) (M : zM), zCl Rg M → Rg l0 → f_Mo_frame_326 O n l0 l1 l6 l7 l9 M = some q → zFr Rg M q.2 := by
  intro n l0 l1 l6 l7 l9 M hcl hR_l0 h
  rw [f_Mo_frame_326] at h
  have g := zFr.rf hcl
  obtain ⟨h1, h⟩ := zif h
  by_cases c3 : (lg_cmp (z_j M l0 38) (0 : Int64)) < 0
  · have h := zift h c3
    exact g.tr (g_Mo_frame_347 n l0 l1 l6 l7 l9 l0 M g.cl hR_l0 hR_l0 h)
  · have h := ziff h c3
    by_cases c2 : (lg_cmp (z_j M l0 38) (131072 : Int64)) ≤ 0
    · have h := zift h c2
      exact g.tr (g_Mo_frame_357 n l0 l1 l6 l7 l9 l0 (z_j M l0 38).toInt32 M g.cl hR_l0 hR_l0 h)
    · have h := ziff h c2
      exact g.tr (g_Mo_frame_347 n l0 l1 l6 l7 l9 l0 M g.cl hR_l0 hR_l0 h)
set_option maxRecDepth 100000 in
set_option maxHeartbeats 4000000 in
theorem g_Mo_frame_292 {Rg : Nat → Prop} {O : zO} {q : Int32 × zM} : ∀ (n : Nat) (l0 : Nat) (l1 : Int32) (l2 : Int32) (l6 : Int32) (s0 : Int64) (s1 : Int64) (M : zM), zCl Rg M → Rg l0 → f_Mo_frame_292 O n l0 l1 l2 l6 s0 s1 M = some q → zFr Rg M q.2 := by
  intro n l0 l1 l2 l6 s0 s1 M hcl hR_l0 h
  rw [f_Mo_frame_292] at h
  have g := zFr.rf hcl
  obtain ⟨v1, e2, h⟩ := zlet_ex h
  obtain ⟨h3, h⟩ := zif h
  obtain ⟨v4, e5, h⟩ := zlet_ex h
  obtain ⟨M6, e7, h⟩ := zlet_ex h
  have g := g.i hR_l0 e7
  have h8 := k_i e7 h3
  by_cases c14 : l2 = 0
  · have h := zift h c14
    exact g.tr (g_Mo_frame_326 n l0 l1 l6 v1 v4 M6 g.cl hR_l0 h)
  · have h := ziff h c14
    obtain ⟨M9, e10, h⟩ := zlet_ex h
    have g := g.j hR_l0 e10
    have h11 := k_j e10 h8
    obtain ⟨q12, c13, h⟩ := zbd h
    have g := g.tr (G_Mo_tell g.cl hR_l0 c13)
    exact g.tr (g_Mo_frame_326 n l0 l1 l6 v1 v4 q12.2 g.cl hR_l0 h)
set_option maxRecDepth 100000 in
set_option maxHeartbeats 4000000 in
theorem g_Mo_frame_256 {Rg : Nat → Prop} {O : zO} {q : Int32 × zM} : ∀ (n : Nat) (l0 : Nat) (l1 : Int32) (l2 : Int32) (s0 : Int32) (M : zM), zCl Rg M → Rg l0 → f_Mo_frame_256 O n l0 l1 l2 s0 M = some q → zFr Rg M q.2 := by
  intro n l0 l1 l2 s0 M hcl hR_l0 h
  rw [f_Mo_frame_256] at h
  have g := zFr.rf hcl
  obtain ⟨h1, h⟩ := zif h
  obtain ⟨q2, c3, h⟩ := zbd h
  have g := g.tr (G_Mo_has g.cl hR_l0 c3)
  by_cases c8 : q2.1 = 0
  · have h := zift h c8
    obtain rfl := z_res h
    exact g
  · have h := ziff h c8
    obtain ⟨h4, h⟩ := zif h
    obtain ⟨q5, c6, h⟩ := zbd h
    have g := g.tr (G_Mo_number g.cl hR_l0 c6)
    by_cases c7 : s0 = (2 : Int32)
    · have h := zift h c7
      exact g.tr (g_Mo_frame_292 n l0 l1 l2 s0 q5.1 (256 : Int64) q5.2 g.cl hR_l0 h)
    · have h := ziff h c7
      exact g.tr (g_Mo_frame_292 n l0 l1 l2 s0 q5.1 (0 : Int64) q5.2 g.cl hR_l0 h)
set_option maxRecDepth 100000 in
set_option maxHeartbeats 4000000 in
theorem g_Mo_frame_219 {Rg : Nat → Prop} {O : zO} {q : Int32 × zM} : ∀ (n : Nat) (l0 : Nat) (l1 : Int32) (l2 : Int32) (l3 : Int32) (M : zM), zCl Rg M → Rg l0 → f_Mo_frame_219 O n l0 l1 l2 l3 M = some q → zFr Rg M q.2 := by
  intro n l0 l1 l2 l3 M hcl hR_l0 h
  rw [f_Mo_frame_219] at h
  have g := zFr.rf hcl
  obtain ⟨h1, h⟩ := zif h
  obtain ⟨M2, e3, h⟩ := zlet_ex h
  have g := g.i hR_l0 e3
  have h4 := k_i e3 h1
  obtain ⟨v5, e6, h⟩ := zlet_ex h
  by_cases c8 : v5 = 0
  · have h := zift h c8
    by_cases c7 : l2 = 0
    · have h := zift h c7
      exact g.tr (g_Mo_frame_256 n l0 l1 l2 (0 : Int32) M2 g.cl hR_l0 h)
    · have h := ziff h c7
      exact g.tr (g_Mo_frame_256 n l0 l1 l2 (1 : Int32) M2 g.cl hR_l0 h)
  · have h := ziff h c8
    exact g.tr (g_Mo_frame_256 n l0 l1 l2 ((1 : Int32) <<< (v5 &&& 31)) M2 g.cl hR_l0 h)
set_option maxRecDepth 100000 in
set_option maxHeartbeats 4000000 in
theorem g_Mo_frame_172 {Rg : Nat → Prop} {O : zO} {q : Int32 × zM} : ∀ (n : Nat) (l0 : Nat) (l1 : Int32) (l2 : Int32) (s0 : Int32) (M : zM), zCl Rg M → Rg l0 → f_Mo_frame_172 O n l0 l1 l2 s0 M = some q → zFr Rg M q.2 := by
  intro n l0 l1 l2 s0 M hcl hR_l0 h
  rw [f_Mo_frame_172] at h
  have g := zFr.rf hcl
  obtain ⟨h1, h⟩ := zif h
  obtain ⟨q2, c3, h⟩ := zbd h
  have g := g.tr (G_Mo_has g.cl hR_l0 c3)
  by_cases c15 : q2.1 = 0
  · have h := zift h c15
    obtain rfl := z_res h
    exact g
  · have h := ziff h c15
    obtain ⟨h4, h⟩ := zif h
    obtain ⟨q5, c6, h⟩ := zbd h
    have g := g.tr (G_Mo_number g.cl hR_l0 c6)
    obtain ⟨v7, e8, h⟩ := zlet_ex h
    by_cases c14 : v7 = 0
    · have h := zift h c14
      exact g.tr (g_Mo_frame_219 n l0 l1 l2 s0 q5.2 g.cl hR_l0 h)
    · have h := ziff h c14
      obtain ⟨h9, h⟩ := zif h
      by_cases c13 : v7 = (z_i q5.2 l0 6)
      · have h := zift h c13
        exact g.tr (g_Mo_frame_219 n l0 l1 l2 s0 q5.2 g.cl hR_l0 h)
      · have h := ziff h c13
        obtain ⟨q10, c11, h⟩ := zbd h
        have g := g.tr (G_Mo_wrong g.cl hR_l0 c11)
        obtain ⟨h12, h⟩ := zif h
        obtain rfl := z_res h
        exact g
set_option maxRecDepth 100000 in
set_option maxHeartbeats 4000000 in
theorem g_Mo_frame_158 {Rg : Nat → Prop} {O : zO} {q : Int32 × zM} : ∀ (n : Nat) (l0 : Nat) (l1 : Int32) (l2 : Int32) (M : zM), zCl Rg M → Rg l0 → f_Mo_frame_158 O n l0 l1 l2 M = some q → zFr Rg M q.2 := by
  intro n l0 l1 l2 M hcl hR_l0 h
  rw [f_Mo_frame_158] at h
  have g := zFr.rf hcl
  by_cases c1 : (l1 - l1 / (4 : Int32) * (4 : Int32)) = (3 : Int32)
  · have h := zift h c1
    exact g.tr (g_Mo_frame_172 n l0 l1 l2 (4 : Int32) M g.cl hR_l0 h)
  · have h := ziff h c1
    exact g.tr (g_Mo_frame_172 n l0 l1 l2 (l1 - l1 / (4 : Int32) * (4 : Int32)) M g.cl hR_l0 h)
set_option maxRecDepth 100000 in
set_option maxHeartbeats 4000000 in
theorem g_Mo_frame_85 {Rg : Nat → Prop} {O : zO} {q : Int32 × zM} : ∀ (n : Nat) (l0 : Nat) (l1 : Int32) (s0 : Int32) (M : zM), zCl Rg M → Rg l0 → f_Mo_frame_85 O n l0 l1 s0 M = some q → zFr Rg M q.2 := by
  intro n l0 l1 s0 M hcl hR_l0 h
  rw [f_Mo_frame_85] at h
  have g := zFr.rf hcl
  by_cases c21 : s0 = 0
  · have h := zift h c21
    obtain ⟨h1, h⟩ := zif h
    obtain ⟨q2, c3, h⟩ := zbd h
    have g := g.tr (G_Mo_has g.cl hR_l0 c3)
    by_cases c20 : q2.1 = 0
    · have h := zift h c20
      obtain rfl := z_res h
      exact g
    · have h := ziff h c20
      obtain ⟨h4, h⟩ := zif h
      have r2 : Rg (z_p q2.2 l0 0) := g.cl _ _ hR_l0
      obtain ⟨h5, h⟩ := zif h
      obtain ⟨h6, h⟩ := zif h
      obtain ⟨v7, e8, h⟩ := zlet_ex h
      have r3 : Rg (z_p q2.2 l0 0) := g.cl _ _ hR_l0
      obtain ⟨h9, h⟩ := zif h
      obtain ⟨M10, e11, h⟩ := zlet_ex h
      have g := g.j hR_l0 e11
      have h12 := k_j e11 h4
      have h13 := k_j e11 h5
      obtain ⟨q14, c15, h⟩ := zbd h
      have g := g.tr (G_Mo_tell g.cl hR_l0 c15)
      obtain ⟨h16, h⟩ := zif h
      obtain ⟨M17, e18, h⟩ := zlet_ex h
      have g := g.i hR_l0 e18
      have h19 := k_i e18 h16
      exact g.tr (g_Mo_frame_158 n l0 l1 s0 M17 g.cl hR_l0 h)
  · have h := ziff h c21
    exact g.tr (g_Mo_frame_158 n l0 l1 s0 M g.cl hR_l0 h)
set_option maxRecDepth 100000 in
set_option maxHeartbeats 4000000 in
theorem g_Mo_frame_0 {Rg : Nat → Prop} {O : zO} {q : Int32 × zM} : ∀ (n : Nat) (l0 : Nat) (M : zM), zCl Rg M → Rg l0 → f_Mo_frame_0 O n l0 M = some q → zFr Rg M q.2 := by
  intro n l0 M hcl hR_l0 h
  rw [f_Mo_frame_0] at h
  have g := zFr.rf hcl
  obtain ⟨h1, h⟩ := zif h
  obtain ⟨M2, e3, h⟩ := zlet_ex h
  have g := g.i hR_l0 e3
  have h4 := k_i e3 h1
  obtain ⟨q5, c6, h⟩ := zbd h
  have g := g.tr (G_Mo_has g.cl hR_l0 c6)
  by_cases c24 : q5.1 = 0
  · have h := zift h c24
    obtain rfl := z_res h
    exact g
  · have h := ziff h c24
    obtain ⟨h7, h⟩ := zif h
    obtain ⟨M8, e9, h⟩ := zlet_ex h
    have g := g.i hR_l0 e9
    have h10 := k_i e9 h7
    have r1 : Rg (z_p M8 l0 0) := g.cl _ _ hR_l0
    obtain ⟨h11, h⟩ := zif h
    obtain ⟨h12, h⟩ := zif h
    obtain ⟨v13, e14, h⟩ := zlet_ex h
    by_cases c23 : ((v13 / (8 : Int32)) - (v13 / (8 : Int32)) / (2 : Int32) * (2 : Int32)) = (1 : Int32)
    · have h := zift h c23
      obtain ⟨q20, c21, h⟩ := zbd h
      have g := g.tr (G_Mo_wrong g.cl hR_l0 c21)
      obtain ⟨h22, h⟩ := zif h
      obtain rfl := z_res h
      exact g
    · have h := ziff h c23
      obtain ⟨M15, e16, h⟩ := zlet_ex h
      have g := g.i hR_l0 e16
      have h17 := k_i e16 h10
      have h18 := k_i e16 h11
      by_cases c19 : ((v13 / (32 : Int32)) - (v13 / (32 : Int32)) / (2 : Int32) * (2 : Int32)) = (1 : Int32)
      · have h := zift h c19
        exact g.tr (g_Mo_frame_85 n l0 v13 (1 : Int32) M15 g.cl hR_l0 h)
      · have h := ziff h c19
        exact g.tr (g_Mo_frame_85 n l0 v13 (0 : Int32) M15 g.cl hR_l0 h)
theorem G_Mo_frame {Rg : Nat → Prop} {O : zO} {n : Nat} {l0 : Nat} {M : zM} {q : Int32 × zM} (hcl : zCl Rg M) (hR_l0 : Rg l0) (h : F_Mo_frame O n l0 M = some q) : zFr Rg M q.2 := g_Mo_frame_0 n l0 M hcl hR_l0 h

set_option maxRecDepth 100000 in
set_option maxHeartbeats 4000000 in
theorem g_Mo_unit_90 {Rg : Nat → Prop} {O : zO} {q : Int32 × zM} : ∀ (n : Nat) (l0 : Nat) (M : zM), zCl Rg M → Rg l0 → f_Mo_unit_90 O n l0 M = some q → zFr Rg M q.2 := by
  intro n l0 M hcl hR_l0 h
  rw [f_Mo_unit_90] at h
  have g := zFr.rf hcl
  obtain ⟨h1, h⟩ := zif h
  obtain ⟨q2, c3, h⟩ := zbd h
  have g := g.tr (G_Mo_wrong g.cl hR_l0 c3)
  obtain ⟨h4, h⟩ := zif h
  obtain rfl := z_res h
  exact g
set_option maxRecDepth 100000 in
set_option maxHeartbeats 4000000 in
theorem g_Mo_unit_0 {Rg : Nat → Prop} {O : zO} {q : Int32 × zM} : ∀ (n : Nat) (l0 : Nat) (M : zM), zCl Rg M → Rg l0 → f_Mo_unit_0 O n l0 M = some q → zFr Rg M q.2 := by
  intro n l0 M hcl hR_l0 h
  rw [f_Mo_unit_0] at h
  have g := zFr.rf hcl
  obtain ⟨h1, h⟩ := zif h
  obtain ⟨q2, c3, h⟩ := zbd h
  have g := g.tr (G_Mo_has g.cl hR_l0 c3)
  by_cases c43 : q2.1 = 0
  · have h := zift h c43
    obtain rfl := z_res h
    exact g
  · have h := ziff h c43
    obtain ⟨h4, h⟩ := zif h
    obtain ⟨q5, c6, h⟩ := zbd h
    have g := g.tr (G_Mo_stands g.cl hR_l0 c6)
    by_cases c42 : q5.1 = 0
    · have h := zift h c42
      obtain ⟨h7, h⟩ := zif h
      have r1 : Rg (z_p q5.2 l0 0) := g.cl _ _ hR_l0
      obtain ⟨h8, h⟩ := zif h
      obtain ⟨h9, h⟩ := zif h
      by_cases c37 : (z_i q5.2 (z_p q5.2 l0 0) (z_i q5.2 l0 28).toNatClampNeg) < (80 : Int32)
      · have h := zift h c37
        exact g.tr (g_Mo_unit_90 n l0 q5.2 g.cl hR_l0 h)
      · have h := ziff h c37
        have r2 : Rg (z_p q5.2 l0 0) := g.cl _ _ hR_l0
        obtain ⟨h10, h⟩ := zif h
        by_cases c36 : (95 : Int32) < (z_i q5.2 (z_p q5.2 l0 0) (z_i q5.2 l0 28).toNatClampNeg)
        · have h := zift h c36
          exact g.tr (g_Mo_unit_90 n l0 q5.2 g.cl hR_l0 h)
        · have h := ziff h c36
          have r3 : Rg (z_p q5.2 l0 0) := g.cl _ _ hR_l0
          obtain ⟨h11, h⟩ := zif h
          obtain ⟨q12, c13, h⟩ := zbd h
          have g := g.tr (G_Mo_stands g.cl hR_l0 c13)
          by_cases c35 : q12.1 = 0
          · have h := zift h c35
            exact g.tr (g_Mo_unit_90 n l0 q12.2 g.cl hR_l0 h)
          · have h := ziff h c35
            obtain ⟨h14, h⟩ := zif h
            obtain ⟨M15, e16, h⟩ := zlet_ex h
            have g := g.i hR_l0 e16
            have h17 := k_i e16 h14
            obtain ⟨q18, c19, h⟩ := zbd h
            have g := g.tr (G_Mo_has g.cl hR_l0 c19)
            by_cases c34 : q18.1 = 0
            · have h := zift h c34
              obtain rfl := z_res h
              exact g
            · have h := ziff h c34
              obtain ⟨h20, h⟩ := zif h
              obtain ⟨q21, c22, h⟩ := zbd h
              have g := g.tr (G_Mo_number g.cl hR_l0 c22)
              obtain ⟨h23, h⟩ := zif h
              obtain ⟨M24, e25, h⟩ := zlet_ex h
              have g := g.i hR_l0 e25
              have h26 := k_i e25 h23
              by_cases c33 : (lg_cmp q21.1 ((z_i M24 l0 1) - (z_i M24 l0 28)).toInt64) ≤ 0
              · have h := zift h c33
                obtain ⟨M27, e28, h⟩ := zlet_ex h
                have g := g.i hR_l0 e28
                have h29 := k_i e28 h26
                obtain rfl := z_res h
                exact g
              · have h := ziff h c33
                obtain ⟨q30, c31, h⟩ := zbd h
                have g := g.tr (G_Mo_wrong g.cl hR_l0 c31)
                obtain ⟨h32, h⟩ := zif h
                obtain rfl := z_res h
                exact g
    · have h := ziff h c42
      obtain ⟨h38, h⟩ := zif h
      obtain ⟨q39, c40, h⟩ := zbd h
      have g := g.tr (G_Mo_frame g.cl hR_l0 c40)
      obtain ⟨h41, h⟩ := zif h
      obtain rfl := z_res h
      exact g
theorem G_Mo_unit {Rg : Nat → Prop} {O : zO} {n : Nat} {l0 : Nat} {M : zM} {q : Int32 × zM} (hcl : zCl Rg M) (hR_l0 : Rg l0) (h : F_Mo_unit O n l0 M = some q) : zFr Rg M q.2 := g_Mo_unit_0 n l0 M hcl hR_l0 h
