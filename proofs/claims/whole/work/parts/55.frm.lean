set_option maxRecDepth 100000 in
set_option maxHeartbeats 4000000 in
theorem g_Mo_read_10 {Rg : Nat → Prop} {O : zO} {q : Int32 × zM} : ∀ (n : Nat) (M : zM), zCl Rg M → f_Mo_read_10 O n M = some q → zFr Rg M q.2 := by
  intro n M hcl h
  rw [f_Mo_read_10] at h
  have g := zFr.rf hcl
  obtain rfl := z_res h
  exact g
set_option maxRecDepth 100000 in
set_option maxHeartbeats 4000000 in
theorem g_Mo_read_101 {Rg : Nat → Prop} {O : zO} {q : Int32 × zM} : ∀ (n : Nat) (l0 : Nat) (l3 : Int32) (M : zM), zCl Rg M → Rg l0 → f_Mo_read_101 O n l0 l3 M = some q → zFr Rg M q.2 := by
  intro n
  induction n with
  | zero => intro l0 l3 M hcl hR_l0 h; rw [f_Mo_read_101] at h; cases h
  | succ n ih =>
    intro l0 l3 M hcl hR_l0 h
    rw [f_Mo_read_101] at h
    have g := zFr.rf hcl
    obtain ⟨h1, h⟩ := zif h
    by_cases c13 : (z_i M l0 30) ≤ l3
    · have h := zift h c13
      obtain rfl := z_res h
      exact g
    · have h := ziff h c13
      have r1 : Rg (z_p M l0 2) := g.cl _ _ hR_l0
      have r2 : Rg (z_p M l0 40) := g.cl _ _ hR_l0
      obtain ⟨h2, h⟩ := zif h
      obtain ⟨h3, h⟩ := zif h
      obtain ⟨h4, h⟩ := zif h
      obtain ⟨h5, h⟩ := zif h
      obtain ⟨M6, e7, h⟩ := zlet_ex h
      have g := g.i r1 e7
      have h8 := k_i e7 h1
      have h9 := k_i e7 h2
      have h10 := k_i e7 h4
      obtain ⟨v11, e12, h⟩ := zlet_ex h
      exact g.tr (ih l0 v11 M6 g.cl hR_l0 h)
set_option maxRecDepth 100000 in
set_option maxHeartbeats 4000000 in
theorem g_Mo_read_73 {Rg : Nat → Prop} {O : zO} {q : Int32 × zM} : ∀ (n : Nat) (l0 : Nat) (l2 : Int32) (M : zM), zCl Rg M → Rg l0 → f_Mo_read_73 O n l0 l2 M = some q → zFr Rg M q.2 := by
  intro n l0 l2 M hcl hR_l0 h
  rw [f_Mo_read_73] at h
  have g := zFr.rf hcl
  by_cases c9 : l2 = 0
  · have h := zift h c9
    obtain ⟨h8, h⟩ := zif h
    obtain rfl := z_res h
    exact g
  · have h := ziff h c9
    obtain ⟨h1, h⟩ := zif h
    obtain ⟨M2, e3, h⟩ := zlet_ex h
    have g := g.i hR_l0 e3
    have h4 := k_i e3 h1
    obtain ⟨M5, e6, h⟩ := zlet_ex h
    have g := g.i hR_l0 e6
    have h7 := k_i e6 h4
    exact g.tr (g_Mo_read_101 n l0 (0 : Int32) M5 g.cl hR_l0 h)
set_option maxRecDepth 100000 in
set_option maxHeartbeats 4000000 in
theorem g_Mo_read_50 {Rg : Nat → Prop} {O : zO} {q : Int32 × zM} : ∀ (n : Nat) (l0 : Nat) (l2 : Int32) (M : zM), zCl Rg M → Rg l0 → f_Mo_read_50 O n l0 l2 M = some q → zFr Rg M q.2 := by
  intro n
  induction n with
  | zero => intro l0 l2 M hcl hR_l0 h; rw [f_Mo_read_50] at h; cases h
  | succ n ih =>
    intro l0 l2 M hcl hR_l0 h
    rw [f_Mo_read_50] at h
    have g := zFr.rf hcl
    by_cases c5 : l2 = 0
    · have h := zift h c5
      exact g.tr (g_Mo_read_73 n l0 l2 M g.cl hR_l0 h)
    · have h := ziff h c5
      obtain ⟨h1, h⟩ := zif h
      by_cases c4 : (z_i M l0 1) ≤ (z_i M l0 28)
      · have h := zift h c4
        exact g.tr (g_Mo_read_73 n l0 l2 M g.cl hR_l0 h)
      · have h := ziff h c4
        obtain ⟨q2, c3, h⟩ := zbd h
        have g := g.tr (G_Mo_unit g.cl hR_l0 c3)
        exact g.tr (ih l0 q2.1 q2.2 g.cl hR_l0 h)
set_option maxRecDepth 100000 in
set_option maxHeartbeats 4000000 in
theorem g_Mo_read_0 {Rg : Nat → Prop} {O : zO} {q : Int32 × zM} : ∀ (n : Nat) (l0 : Nat) (l1 : Int32) (M : zM), zCl Rg M → Rg l0 → f_Mo_read_0 O n l0 l1 M = some q → zFr Rg M q.2 := by
  intro n l0 l1 M hcl hR_l0 h
  rw [f_Mo_read_0] at h
  have g := zFr.rf hcl
  by_cases c24 : l1 < 0
  · have h := zift h c24
    exact g.tr (g_Mo_read_10 n M g.cl h)
  · have h := ziff h c24
    by_cases c23 : l1 ≤ (32768 : Int32)
    · have h := zift h c23
      obtain ⟨h1, h⟩ := zif h
      obtain ⟨M2, e3, h⟩ := zlet_ex h
      have g := g.i hR_l0 e3
      have h4 := k_i e3 h1
      obtain ⟨M5, e6, h⟩ := zlet_ex h
      have g := g.i hR_l0 e6
      have h7 := k_i e6 h4
      obtain ⟨M8, e9, h⟩ := zlet_ex h
      have g := g.i hR_l0 e9
      have h10 := k_i e9 h7
      obtain ⟨M11, e12, h⟩ := zlet_ex h
      have g := g.i hR_l0 e12
      have h13 := k_i e12 h10
      obtain ⟨M14, e15, h⟩ := zlet_ex h
      have g := g.i hR_l0 e15
      have h16 := k_i e15 h13
      obtain ⟨M17, e18, h⟩ := zlet_ex h
      have g := g.i hR_l0 e18
      have h19 := k_i e18 h16
      obtain ⟨M20, e21, h⟩ := zlet_ex h
      have g := g.i hR_l0 e21
      have h22 := k_i e21 h19
      exact g.tr (g_Mo_read_50 n l0 (1 : Int32) M20 g.cl hR_l0 h)
    · have h := ziff h c23
      exact g.tr (g_Mo_read_10 n M g.cl h)
theorem G_Mo_read {Rg : Nat → Prop} {O : zO} {n : Nat} {l0 : Nat} {l1 : Int32} {M : zM} {q : Int32 × zM} (hcl : zCl Rg M) (hR_l0 : Rg l0) (h : F_Mo_read O n l0 l1 M = some q) : zFr Rg M q.2 := g_Mo_read_0 n l0 l1 M hcl hR_l0 h

set_option maxRecDepth 100000 in
set_option maxHeartbeats 4000000 in
theorem g_Mo_about_84 {Rg : Nat → Prop} {O : zO} {q : Int32 × zM} : ∀ (n : Nat) (s0 : Int32) (M : zM), zCl Rg M → f_Mo_about_84 O n s0 M = some q → zFr Rg M q.2 := by
  intro n s0 M hcl h
  rw [f_Mo_about_84] at h
  have g := zFr.rf hcl
  obtain rfl := z_res h
  exact g
set_option maxRecDepth 100000 in
set_option maxHeartbeats 4000000 in
theorem g_Mo_about_0 {Rg : Nat → Prop} {O : zO} {q : Int32 × zM} : ∀ (n : Nat) (l0 : Nat) (l1 : Int32) (M : zM), zCl Rg M → Rg l0 → f_Mo_about_0 O n l0 l1 M = some q → zFr Rg M q.2 := by
  intro n l0 l1 M hcl hR_l0 h
  rw [f_Mo_about_0] at h
  have g := zFr.rf hcl
  by_cases c16 : l1 = 0
  · have h := zift h c16
    obtain ⟨h15, h⟩ := zif h
    obtain rfl := z_res h
    exact g
  · have h := ziff h c16
    by_cases c14 : l1 = (1 : Int32)
    · have h := zift h c14
      obtain ⟨h13, h⟩ := zif h
      obtain rfl := z_res h
      exact g
    · have h := ziff h c14
      by_cases c12 : l1 = (2 : Int32)
      · have h := zift h c12
        obtain ⟨h11, h⟩ := zif h
        obtain rfl := z_res h
        exact g
      · have h := ziff h c12
        by_cases c10 : l1 = (3 : Int32)
        · have h := zift h c10
          obtain ⟨h9, h⟩ := zif h
          obtain rfl := z_res h
          exact g
        · have h := ziff h c10
          by_cases c8 : l1 = (4 : Int32)
          · have h := zift h c8
            obtain ⟨h7, h⟩ := zif h
            obtain rfl := z_res h
            exact g
          · have h := ziff h c8
            by_cases c6 : l1 = (5 : Int32)
            · have h := zift h c6
              obtain ⟨h5, h⟩ := zif h
              obtain rfl := z_res h
              exact g
            · have h := ziff h c6
              by_cases c4 : l1 = (6 : Int32)
              · have h := zift h c4
                obtain ⟨h3, h⟩ := zif h
                obtain rfl := z_res h
                exact g
              · have h := ziff h c4
                by_cases c2 : l1 = (7 : Int32)
                · have h := zift h c2
                  obtain ⟨h1, h⟩ := zif h
                  exact g.tr (g_Mo_about_84 n (z_i M l0 6) M g.cl h)
                · have h := ziff h c2
                  exact g.tr (g_Mo_about_84 n (-1 : Int32) M g.cl h)
theorem G_Mo_about {Rg : Nat → Prop} {O : zO} {n : Nat} {l0 : Nat} {l1 : Int32} {M : zM} {q : Int32 × zM} (hcl : zCl Rg M) (hR_l0 : Rg l0) (h : F_Mo_about O n l0 l1 M = some q) : zFr Rg M q.2 := g_Mo_about_0 n l0 l1 M hcl hR_l0 h

set_option maxRecDepth 100000 in
set_option maxHeartbeats 4000000 in
theorem g_Mo_size_0 {Rg : Nat → Prop} {O : zO} {q : Int32 × zM} : ∀ (n : Nat) (l0 : Nat) (M : zM), zCl Rg M → Rg l0 → f_Mo_size_0 O n l0 M = some q → zFr Rg M q.2 := by
  intro n l0 M hcl hR_l0 h
  rw [f_Mo_size_0] at h
  have g := zFr.rf hcl
  obtain ⟨h1, h⟩ := zif h
  obtain rfl := z_res h
  exact g
theorem G_Mo_size {Rg : Nat → Prop} {O : zO} {n : Nat} {l0 : Nat} {M : zM} {q : Int32 × zM} (hcl : zCl Rg M) (hR_l0 : Rg l0) (h : F_Mo_size O n l0 M = some q) : zFr Rg M q.2 := g_Mo_size_0 n l0 M hcl hR_l0 h

set_option maxRecDepth 100000 in
set_option maxHeartbeats 4000000 in
theorem g_Mo_byteAt_22 {Rg : Nat → Prop} {O : zO} {q : Int32 × zM} : ∀ (n : Nat) (s0 : Int32) (M : zM), zCl Rg M → f_Mo_byteAt_22 O n s0 M = some q → zFr Rg M q.2 := by
  intro n s0 M hcl h
  rw [f_Mo_byteAt_22] at h
  have g := zFr.rf hcl
  obtain rfl := z_res h
  exact g
set_option maxRecDepth 100000 in
set_option maxHeartbeats 4000000 in
theorem g_Mo_byteAt_12 {Rg : Nat → Prop} {O : zO} {q : Int32 × zM} : ∀ (n : Nat) (M : zM), zCl Rg M → f_Mo_byteAt_12 O n M = some q → zFr Rg M q.2 := by
  intro n M hcl h
  rw [f_Mo_byteAt_12] at h
  have g := zFr.rf hcl
  exact g.tr (g_Mo_byteAt_22 n (-1 : Int32) M g.cl h)
set_option maxRecDepth 100000 in
set_option maxHeartbeats 4000000 in
theorem g_Mo_byteAt_0 {Rg : Nat → Prop} {O : zO} {q : Int32 × zM} : ∀ (n : Nat) (l0 : Nat) (l1 : Int32) (M : zM), zCl Rg M → Rg l0 → f_Mo_byteAt_0 O n l0 l1 M = some q → zFr Rg M q.2 := by
  intro n l0 l1 M hcl hR_l0 h
  rw [f_Mo_byteAt_0] at h
  have g := zFr.rf hcl
  by_cases c5 : l1 < 0
  · have h := zift h c5
    exact g.tr (g_Mo_byteAt_12 n M g.cl h)
  · have h := ziff h c5
    obtain ⟨h1, h⟩ := zif h
    by_cases c4 : l1 < (z_i M l0 3)
    · have h := zift h c4
      have r1 : Rg (z_p M l0 2) := g.cl _ _ hR_l0
      obtain ⟨h2, h⟩ := zif h
      obtain ⟨h3, h⟩ := zif h
      exact g.tr (g_Mo_byteAt_22 n (z_i M (z_p M l0 2) l1.toNatClampNeg) M g.cl h)
    · have h := ziff h c4
      exact g.tr (g_Mo_byteAt_12 n M g.cl h)
theorem G_Mo_byteAt {Rg : Nat → Prop} {O : zO} {n : Nat} {l0 : Nat} {l1 : Int32} {M : zM} {q : Int32 × zM} (hcl : zCl Rg M) (hR_l0 : Rg l0) (h : F_Mo_byteAt O n l0 l1 M = some q) : zFr Rg M q.2 := g_Mo_byteAt_0 n l0 l1 M hcl hR_l0 h
