set_option maxRecDepth 100000 in
set_option maxHeartbeats 4000000 in
theorem g_FR_head_142 {Rg : Nat → Prop} {O : zO} {q : Int32 × zM} : ∀ (n : Nat) (M : zM), zCl Rg M → f_FR_head_142 O n M = some q → zFr Rg M q.2 := by
  intro n M hcl h
  rw [f_FR_head_142] at h
  have g := zFr.rf hcl
  obtain rfl := z_res h
  exact g
set_option maxRecDepth 100000 in
set_option maxHeartbeats 4000000 in
theorem g_FR_head_122 {Rg : Nat → Prop} {O : zO} {q : Int32 × zM} : ∀ (n : Nat) (l0 : Nat) (l1 : Int32) (l2 : Int32) (l3 : Int32) (M : zM), zCl Rg M → Rg l0 → f_FR_head_122 O n l0 l1 l2 l3 M = some q → zFr Rg M q.2 := by
  intro n l0 l1 l2 l3 M hcl hR_l0 h
  rw [f_FR_head_122] at h
  have g := zFr.rf hcl
  obtain ⟨h1, h⟩ := zif h
  obtain ⟨q2, c3, h⟩ := zbd h
  have g := g.tr (G_FR_idFits g.cl hR_l0 c3)
  by_cases c24 : q2.1 = 0
  · have h := zift h c24
    exact g.tr (g_FR_head_142 n q2.2 g.cl h)
  · have h := ziff h c24
    obtain ⟨h4, h⟩ := zif h
    obtain ⟨q5, c6, h⟩ := zbd h
    have g := g.tr (G_FR_sizeTold g.cl hR_l0 c6)
    by_cases c23 : q5.1 = 0
    · have h := zift h c23
      exact g.tr (g_FR_head_142 n q5.2 g.cl h)
    · have h := ziff h c23
      obtain ⟨h7, h⟩ := zif h
      have r4 : Rg (z_p q5.2 l0 3) := g.cl _ _ hR_l0
      obtain ⟨h8, h⟩ := zif h
      obtain ⟨q9, c10, h⟩ := zbd h
      have g := g.tr (G_Content_startFrame g.cl r4 c10)
      obtain ⟨h11, h⟩ := zif h
      have r5 : Rg (z_p q9.2 l0 4) := g.cl _ _ hR_l0
      have r6 : Rg (z_p q9.2 l0 1) := g.cl _ _ hR_l0
      obtain ⟨h12, h⟩ := zif h
      obtain ⟨q13, c14, h⟩ := zbd h
      have g := g.tr (G_Lit_startFrame g.cl r5 r6 c14)
      obtain ⟨h15, h⟩ := zif h
      have r7 : Rg (z_p q13.2 l0 5) := g.cl _ _ hR_l0
      have r8 : Rg (z_p q13.2 l0 1) := g.cl _ _ hR_l0
      obtain ⟨h16, h⟩ := zif h
      obtain ⟨q17, c18, h⟩ := zbd h
      have g := g.tr (G_Seq_startFrame g.cl r7 r8 c18)
      obtain ⟨h19, h⟩ := zif h
      obtain ⟨M20, e21, h⟩ := zlet_ex h
      have g := g.i hR_l0 e21
      have h22 := k_i e21 h19
      obtain rfl := z_res h
      exact g
set_option maxRecDepth 100000 in
set_option maxHeartbeats 4000000 in
theorem g_FR_head_110 {Rg : Nat → Prop} {O : zO} {q : Int32 × zM} : ∀ (n : Nat) (l0 : Nat) (l1 : Int32) (l2 : Int32) (s0 : Int32) (M : zM), zCl Rg M → Rg l0 → f_FR_head_110 O n l0 l1 l2 s0 M = some q → zFr Rg M q.2 := by
  intro n l0 l1 l2 s0 M hcl hR_l0 h
  rw [f_FR_head_110] at h
  have g := zFr.rf hcl
  by_cases c5 : l2 = 0
  · have h := zift h c5
    obtain ⟨h1, h⟩ := zif h
    obtain ⟨q2, c3, h⟩ := zbd h
    have g := g.tr (G_FR_window g.cl hR_l0 c3)
    by_cases c4 : q2.1 = 0
    · have h := zift h c4
      exact g.tr (g_FR_head_142 n q2.2 g.cl h)
    · have h := ziff h c4
      exact g.tr (g_FR_head_122 n l0 l1 l2 s0 q2.2 g.cl hR_l0 h)
  · have h := ziff h c5
    exact g.tr (g_FR_head_122 n l0 l1 l2 s0 M g.cl hR_l0 h)
set_option maxRecDepth 100000 in
set_option maxHeartbeats 4000000 in
theorem g_FR_head_93 {Rg : Nat → Prop} {O : zO} {q : Int32 × zM} : ∀ (n : Nat) (l0 : Nat) (l1 : Int32) (l2 : Int32) (s0 : Nat) (s1 : Int32) (M : zM), zCl Rg M → Rg l0 → Rg s0 → f_FR_head_93 O n l0 l1 l2 s0 s1 M = some q → zFr Rg M q.2 := by
  intro n l0 l1 l2 s0 s1 M hcl hR_l0 hR_s0 h
  rw [f_FR_head_93] at h
  have g := zFr.rf hcl
  obtain ⟨h1, h⟩ := zif h
  obtain ⟨h2, h⟩ := zif h
  obtain ⟨M3, e4, h⟩ := zlet_ex h
  have g := g.i hR_s0 e4
  have h5 := k_i e4 h1
  by_cases c6 : (l1 &&& (3 : Int32)) = (3 : Int32)
  · have h := zift h c6
    exact g.tr (g_FR_head_110 n l0 l1 l2 (4 : Int32) M3 g.cl hR_l0 h)
  · have h := ziff h c6
    exact g.tr (g_FR_head_110 n l0 l1 l2 (l1 &&& (3 : Int32)) M3 g.cl hR_l0 h)
set_option maxRecDepth 100000 in
set_option maxHeartbeats 4000000 in
theorem g_FR_head_80 {Rg : Nat → Prop} {O : zO} {q : Int32 × zM} : ∀ (n : Nat) (l0 : Nat) (l1 : Int32) (s0 : Int32) (M : zM), zCl Rg M → Rg l0 → f_FR_head_80 O n l0 l1 s0 M = some q → zFr Rg M q.2 := by
  intro n l0 l1 s0 M hcl hR_l0 h
  rw [f_FR_head_80] at h
  have g := zFr.rf hcl
  by_cases c1 : (l1 &&& (4 : Int32)) = 0
  · have h := zift h c1
    exact g.tr (g_FR_head_93 n l0 l1 s0 l0 (0 : Int32) M g.cl hR_l0 hR_l0 h)
  · have h := ziff h c1
    exact g.tr (g_FR_head_93 n l0 l1 s0 l0 (1 : Int32) M g.cl hR_l0 hR_l0 h)
set_option maxRecDepth 100000 in
set_option maxHeartbeats 4000000 in
theorem g_FR_head_0 {Rg : Nat → Prop} {O : zO} {q : Int32 × zM} : ∀ (n : Nat) (l0 : Nat) (M : zM), zCl Rg M → Rg l0 → f_FR_head_0 O n l0 M = some q → zFr Rg M q.2 := by
  intro n l0 M hcl hR_l0 h
  rw [f_FR_head_0] at h
  have g := zFr.rf hcl
  obtain ⟨h1, h⟩ := zif h
  obtain ⟨q2, c3, h⟩ := zbd h
  have g := g.tr (G_FR_lacks g.cl hR_l0 c3)
  by_cases c28 : q2.1 = 0
  · have h := zift h c28
    obtain ⟨h4, h⟩ := zif h
    have r1 : Rg (z_p q2.2 l0 0) := g.cl _ _ hR_l0
    obtain ⟨h5, h⟩ := zif h
    obtain ⟨q6, c7, h⟩ := zbd h
    have g := g.tr (G_Row_at g.cl r1 c7)
    obtain ⟨h8, h⟩ := zif h
    have r2 : Rg (z_p q6.2 l0 2) := g.cl _ _ hR_l0
    obtain ⟨h9, h⟩ := zif h
    obtain ⟨M10, e11, h⟩ := zlet_ex h
    have g := g.i r2 e11
    have h12 := k_i e11 h8
    have h13 := k_i e11 h9
    by_cases c23 : (q6.1 &&& (8 : Int32)) = 0
    · have h := zift h c23
      obtain ⟨M14, e15, h⟩ := zlet_ex h
      have g := g.i hR_l0 e15
      have h16 := k_i e15 h12
      have h17 := k_i e15 h13
      by_cases c18 : (q6.1 &&& (32 : Int32)) = 0
      · have h := zift h c18
        exact g.tr (g_FR_head_80 n l0 q6.1 (0 : Int32) M14 g.cl hR_l0 h)
      · have h := ziff h c18
        exact g.tr (g_FR_head_80 n l0 q6.1 (1 : Int32) M14 g.cl hR_l0 h)
    · have h := ziff h c23
      have r3 : Rg (z_p M10 l0 2) := g.cl _ _ hR_l0
      obtain ⟨h19, h⟩ := zif h
      obtain ⟨q20, c21, h⟩ := zbd h
      have g := g.tr (G_Rep_fail g.cl r3 c21)
      obtain ⟨h22, h⟩ := zif h
      obtain rfl := z_res h
      exact g
  · have h := ziff h c28
    obtain ⟨h24, h⟩ := zif h
    obtain ⟨q25, c26, h⟩ := zbd h
    have g := g.tr (G_FR_endsWithin g.cl hR_l0 c26)
    obtain ⟨h27, h⟩ := zif h
    obtain rfl := z_res h
    exact g
theorem G_FR_head {Rg : Nat → Prop} {O : zO} {n : Nat} {l0 : Nat} {M : zM} {q : Int32 × zM} (hcl : zCl Rg M) (hR_l0 : Rg l0) (h : F_FR_head O n l0 M = some q) : zFr Rg M q.2 := g_FR_head_0 n l0 M hcl hR_l0 h

set_option maxRecDepth 100000 in
set_option maxHeartbeats 4000000 in
theorem g_FR_spare_0 {Rg : Nat → Prop} {O : zO} {q : Int32 × zM} : ∀ (n : Nat) (l0 : Nat) (M : zM), zCl Rg M → Rg l0 → f_FR_spare_0 O n l0 M = some q → zFr Rg M q.2 := by
  intro n l0 M hcl hR_l0 h
  rw [f_FR_spare_0] at h
  have g := zFr.rf hcl
  obtain ⟨h1, h⟩ := zif h
  obtain ⟨q2, c3, h⟩ := zbd h
  have g := g.tr (G_FR_lacks g.cl hR_l0 c3)
  by_cases c27 : q2.1 = 0
  · have h := zift h c27
    obtain ⟨h4, h⟩ := zif h
    have r1 : Rg (z_p q2.2 l0 0) := g.cl _ _ hR_l0
    obtain ⟨h5, h⟩ := zif h
    obtain ⟨q6, c7, h⟩ := zbd h
    have g := g.tr (G_Row_number g.cl r1 c7)
    obtain ⟨h8, h⟩ := zif h
    obtain ⟨M9, e10, h⟩ := zlet_ex h
    have g := g.i hR_l0 e10
    have h11 := k_i e10 h8
    obtain ⟨q12, c13, h⟩ := zbd h
    have g := g.tr (G_FR_lacks g.cl hR_l0 c13)
    by_cases c22 : q12.1 = 0
    · have h := zift h c22
      obtain ⟨h14, h⟩ := zif h
      obtain ⟨M15, e16, h⟩ := zlet_ex h
      have g := g.i hR_l0 e16
      have h17 := k_i e16 h14
      obtain rfl := z_res h
      exact g
    · have h := ziff h c22
      obtain ⟨h18, h⟩ := zif h
      obtain ⟨q19, c20, h⟩ := zbd h
      have g := g.tr (G_FR_endsWithin g.cl hR_l0 c20)
      obtain ⟨h21, h⟩ := zif h
      obtain rfl := z_res h
      exact g
  · have h := ziff h c27
    obtain ⟨h23, h⟩ := zif h
    obtain ⟨q24, c25, h⟩ := zbd h
    have g := g.tr (G_FR_endsWithin g.cl hR_l0 c25)
    obtain ⟨h26, h⟩ := zif h
    obtain rfl := z_res h
    exact g
theorem G_FR_spare {Rg : Nat → Prop} {O : zO} {n : Nat} {l0 : Nat} {M : zM} {q : Int32 × zM} (hcl : zCl Rg M) (hR_l0 : Rg l0) (h : F_FR_spare O n l0 M = some q) : zFr Rg M q.2 := g_FR_spare_0 n l0 M hcl hR_l0 h

set_option maxRecDepth 100000 in
set_option maxHeartbeats 4000000 in
theorem g_FR_beginning_0 {Rg : Nat → Prop} {O : zO} {q : Int32 × zM} : ∀ (n : Nat) (l0 : Nat) (M : zM), zCl Rg M → Rg l0 → f_FR_beginning_0 O n l0 M = some q → zFr Rg M q.2 := by
  intro n l0 M hcl hR_l0 h
  rw [f_FR_beginning_0] at h
  have g := zFr.rf hcl
  obtain ⟨h1, h⟩ := zif h
  obtain ⟨q2, c3, h⟩ := zbd h
  have g := g.tr (G_FR_lacks g.cl hR_l0 c3)
  by_cases c33 : q2.1 = 0
  · have h := zift h c33
    obtain ⟨h4, h⟩ := zif h
    have r1 : Rg (z_p q2.2 l0 0) := g.cl _ _ hR_l0
    obtain ⟨h5, h⟩ := zif h
    obtain ⟨q6, c7, h⟩ := zbd h
    have g := g.tr (G_Row_number g.cl r1 c7)
    by_cases c28 : (lg_cmp q6.1 (4247762216 : Int64)) = 0
    · have h := zift h c28
      obtain ⟨h21, h⟩ := zif h
      obtain ⟨M22, e23, h⟩ := zlet_ex h
      have g := g.i hR_l0 e23
      have h24 := k_i e23 h21
      obtain ⟨q25, c26, h⟩ := zbd h
      have g := g.tr (G_FR_head g.cl hR_l0 c26)
      obtain ⟨h27, h⟩ := zif h
      obtain rfl := z_res h
      exact g
    · have h := ziff h c28
      by_cases c20 : (lg_cmp (q6.1 &&& (4294967280 : Int64)) (407710288 : Int64)) = 0
      · have h := zift h c20
        obtain ⟨h13, h⟩ := zif h
        obtain ⟨M14, e15, h⟩ := zlet_ex h
        have g := g.i hR_l0 e15
        have h16 := k_i e15 h13
        obtain ⟨q17, c18, h⟩ := zbd h
        have g := g.tr (G_FR_spare g.cl hR_l0 c18)
        obtain ⟨h19, h⟩ := zif h
        obtain rfl := z_res h
        exact g
      · have h := ziff h c20
        obtain ⟨h8, h⟩ := zif h
        have r2 : Rg (z_p q6.2 l0 2) := g.cl _ _ hR_l0
        obtain ⟨h9, h⟩ := zif h
        obtain ⟨q10, c11, h⟩ := zbd h
        have g := g.tr (G_Rep_fail g.cl r2 c11)
        obtain ⟨h12, h⟩ := zif h
        obtain rfl := z_res h
        exact g
  · have h := ziff h c33
    obtain ⟨h29, h⟩ := zif h
    obtain ⟨q30, c31, h⟩ := zbd h
    have g := g.tr (G_FR_endsWithin g.cl hR_l0 c31)
    obtain ⟨h32, h⟩ := zif h
    obtain rfl := z_res h
    exact g
theorem G_FR_beginning {Rg : Nat → Prop} {O : zO} {n : Nat} {l0 : Nat} {M : zM} {q : Int32 × zM} (hcl : zCl Rg M) (hR_l0 : Rg l0) (h : F_FR_beginning O n l0 M = some q) : zFr Rg M q.2 := g_FR_beginning_0 n l0 M hcl hR_l0 h

set_option maxRecDepth 100000 in
set_option maxHeartbeats 4000000 in
theorem g_SF_read_10 {Rg : Nat → Prop} {O : zO} {q : Int32 × zM} : ∀ (n : Nat) (M : zM), zCl Rg M → f_SF_read_10 O n M = some q → zFr Rg M q.2 := by
  intro n M hcl h
  rw [f_SF_read_10] at h
  have g := zFr.rf hcl
  obtain rfl := z_res h
  exact g
set_option maxRecDepth 100000 in
set_option maxHeartbeats 4000000 in
theorem g_SF_read_75 {Rg : Nat → Prop} {O : zO} {q : Int32 × zM} : ∀ (n : Nat) (l0 : Nat) (M : zM), zCl Rg M → Rg l0 → f_SF_read_75 O n l0 M = some q → zFr Rg M q.2 := by
  intro n l0 M hcl hR_l0 h
  rw [f_SF_read_75] at h
  have g := zFr.rf hcl
  obtain ⟨h1, h⟩ := zif h
  have r6 : Rg (z_p M l0 3) := g.cl _ _ hR_l0
  obtain ⟨h2, h⟩ := zif h
  by_cases c20 : (z_i M (z_p M l0 3) 0) = 0
  · have h := zift h c20
    have r7 : Rg (z_p M l0 3) := g.cl _ _ hR_l0
    have r8 : Rg (z_p M l0 0) := g.cl _ _ hR_l0
    obtain ⟨h3, h⟩ := zif h
    obtain ⟨M4, e5, h⟩ := zlet_ex h
    have g := g.i r7 e5
    have h6 := k_i e5 h1
    have h7 := k_i e5 h2
    have h8 := k_i e5 h3
    have r9 : Rg (z_p M4 l0 1) := g.cl _ _ hR_l0
    obtain ⟨h9, h⟩ := zif h
    obtain ⟨q10, c11, h⟩ := zbd h
    have g := g.tr (G_Row_empty g.cl r9 c11)
    obtain ⟨h12, h⟩ := zif h
    have r10 : Rg (z_p q10.2 l0 1) := g.cl _ _ hR_l0
    have r11 : Rg (z_p q10.2 l0 4) := g.cl _ _ hR_l0
    obtain ⟨h13, h⟩ := zif h
    have r12 : Rg (z_p q10.2 (z_p q10.2 l0 4) 0) := g.cl _ _ r11
    have r13 : Rg (z_p q10.2 l0 4) := g.cl _ _ hR_l0
    have r14 : Rg (z_p q10.2 (z_p q10.2 l0 4) 0) := g.cl _ _ r13
    obtain ⟨h14, h⟩ := zif h
    obtain ⟨h15, h⟩ := zif h
    obtain ⟨q16, c17, h⟩ := zbd h
    have g := g.tr (G_Row_putPart g.cl r10 r14 c17)
    obtain ⟨h18, h⟩ := zif h
    have r15 : Rg (z_p q16.2 l0 1) := g.cl _ _ hR_l0
    obtain ⟨h19, h⟩ := zif h
    obtain rfl := z_res h
    exact g
  · have h := ziff h c20
    have r16 : Rg (z_p M l0 3) := g.cl _ _ hR_l0
    obtain rfl := z_res h
    exact g
set_option maxRecDepth 100000 in
set_option maxHeartbeats 4000000 in
theorem g_SF_read_69 {Rg : Nat → Prop} {O : zO} {q : Int32 × zM} {k23 : Nat → Int32 → zM → Option (Int32 × zM)} (hk23 : ∀ (l0 : Nat) (l2 : Int32) (M : zM), zCl Rg M → Rg l0 → k23 l0 l2 M = some q → zFr Rg M q.2) : ∀ (n : Nat) (l0 : Nat) (l2 : Int32) (M : zM), zCl Rg M → Rg l0 → f_SF_read_69 O k23 n l0 l2 M = some q → zFr Rg M q.2 := by
  intro n l0 l2 M hcl hR_l0 h
  rw [f_SF_read_69] at h
  have g := zFr.rf hcl
  obtain ⟨v1, e2, h⟩ := zlet_ex h
  exact g.tr (hk23 l0 v1 M g.cl hR_l0 h)
set_option maxRecDepth 100000 in
set_option maxHeartbeats 4000000 in
theorem g_SF_read_23 {Rg : Nat → Prop} {O : zO} {q : Int32 × zM} : ∀ (n : Nat) (l0 : Nat) (l2 : Int32) (M : zM), zCl Rg M → Rg l0 → f_SF_read_23 O n l0 l2 M = some q → zFr Rg M q.2 := by
  intro n
  induction n with
  | zero => intro l0 l2 M hcl hR_l0 h; rw [f_SF_read_23] at h; cases h
  | succ n ih =>
    intro l0 l2 M hcl hR_l0 h
    rw [f_SF_read_23] at h
    have g := zFr.rf hcl
    by_cases c13 : (12000 : Int32) < l2
    · have h := zift h c13
      exact g.tr (g_SF_read_75 n l0 M g.cl hR_l0 h)
    · have h := ziff h c13
      obtain ⟨h1, h⟩ := zif h
      have r2 : Rg (z_p M l0 5) := g.cl _ _ hR_l0
      obtain ⟨h2, h⟩ := zif h
      obtain ⟨q3, c4, h⟩ := zbd h
      have g := g.tr (G_FR_goesOn g.cl r2 c4)
      by_cases c12 : q3.1 = 0
      · have h := zift h c12
        exact g.tr (g_SF_read_75 n l0 q3.2 g.cl hR_l0 h)
      · have h := ziff h c12
        obtain ⟨h5, h⟩ := zif h
        have r3 : Rg (z_p q3.2 l0 5) := g.cl _ _ hR_l0
        obtain ⟨h6, h⟩ := zif h
        by_cases c11 : (z_i q3.2 (z_p q3.2 l0 5) 7) = 0
        · have h := zift h c11
          have r4 : Rg (z_p q3.2 l0 5) := g.cl _ _ hR_l0
          obtain ⟨q7, c8, h⟩ := zbd h
          have g := g.tr (G_FR_beginning g.cl r4 c8)
          exact g.tr (g_SF_read_69 ih n l0 l2 q7.2 g.cl hR_l0 h)
        · have h := ziff h c11
          have r5 : Rg (z_p q3.2 l0 5) := g.cl _ _ hR_l0
          obtain ⟨q9, c10, h⟩ := zbd h
          have g := g.tr (G_FR_block g.cl r5 c10)
          exact g.tr (g_SF_read_69 ih n l0 l2 q9.2 g.cl hR_l0 h)
set_option maxRecDepth 100000 in
set_option maxHeartbeats 4000000 in
theorem g_SF_read_0 {Rg : Nat → Prop} {O : zO} {q : Int32 × zM} : ∀ (n : Nat) (l0 : Nat) (l1 : Int32) (M : zM), zCl Rg M → Rg l0 → f_SF_read_0 O n l0 l1 M = some q → zFr Rg M q.2 := by
  intro n l0 l1 M hcl hR_l0 h
  rw [f_SF_read_0] at h
  have g := zFr.rf hcl
  by_cases c6 : l1 < 0
  · have h := zift h c6
    exact g.tr (g_SF_read_10 n M g.cl h)
  · have h := ziff h c6
    by_cases c5 : l1 ≤ (32768 : Int32)
    · have h := zift h c5
      obtain ⟨h1, h⟩ := zif h
      have r1 : Rg (z_p M l0 5) := g.cl _ _ hR_l0
      obtain ⟨h2, h⟩ := zif h
      obtain ⟨q3, c4, h⟩ := zbd h
      have g := g.tr (G_FR_start g.cl r1 c4)
      exact g.tr (g_SF_read_23 n l0 (0 : Int32) q3.2 g.cl hR_l0 h)
    · have h := ziff h c5
      exact g.tr (g_SF_read_10 n M g.cl h)
theorem G_SF_read {Rg : Nat → Prop} {O : zO} {n : Nat} {l0 : Nat} {l1 : Int32} {M : zM} {q : Int32 × zM} (hcl : zCl Rg M) (hR_l0 : Rg l0) (h : F_SF_read O n l0 l1 M = some q) : zFr Rg M q.2 := g_SF_read_0 n l0 l1 M hcl hR_l0 h

set_option maxRecDepth 100000 in
set_option maxHeartbeats 4000000 in
theorem g_SF_about_0 {Rg : Nat → Prop} {O : zO} {q : Int32 × zM} : ∀ (n : Nat) (l0 : Nat) (l1 : Int32) (M : zM), zCl Rg M → Rg l0 → f_SF_about_0 O n l0 l1 M = some q → zFr Rg M q.2 := by
  intro n l0 l1 M hcl hR_l0 h
  rw [f_SF_about_0] at h
  have g := zFr.rf hcl
  by_cases c3 : l1 = (0 : Int32)
  · have h := zift h c3
    obtain ⟨h1, h⟩ := zif h
    have r1 : Rg (z_p M l0 3) := g.cl _ _ hR_l0
    obtain ⟨h2, h⟩ := zif h
    obtain rfl := z_res h
    exact g
  have h := ziff h c3
  by_cases c6 : l1 = (1 : Int32)
  · have h := zift h c6
    obtain ⟨h4, h⟩ := zif h
    have r2 : Rg (z_p M l0 3) := g.cl _ _ hR_l0
    obtain ⟨h5, h⟩ := zif h
    obtain rfl := z_res h
    exact g
  have h := ziff h c6
  by_cases c9 : l1 = (2 : Int32)
  · have h := zift h c9
    obtain ⟨h7, h⟩ := zif h
    have r3 : Rg (z_p M l0 3) := g.cl _ _ hR_l0
    obtain ⟨h8, h⟩ := zif h
    obtain rfl := z_res h
    exact g
  have h := ziff h c9
  by_cases c12 : l1 = (3 : Int32)
  · have h := zift h c12
    obtain ⟨h10, h⟩ := zif h
    have r4 : Rg (z_p M l0 3) := g.cl _ _ hR_l0
    obtain ⟨h11, h⟩ := zif h
    obtain rfl := z_res h
    exact g
  have h := ziff h c12
  by_cases c16 : l1 = (4 : Int32)
  · have h := zift h c16
    obtain ⟨h13, h⟩ := zif h
    have r5 : Rg (z_p M l0 4) := g.cl _ _ hR_l0
    obtain ⟨h14, h⟩ := zif h
    have r6 : Rg (z_p M (z_p M l0 4) 0) := g.cl _ _ r5
    obtain ⟨h15, h⟩ := zif h
    obtain rfl := z_res h
    exact g
  have h := ziff h c16
  by_cases c19 : l1 = (5 : Int32)
  · have h := zift h c19
    obtain ⟨h17, h⟩ := zif h
    have r7 : Rg (z_p M l0 3) := g.cl _ _ hR_l0
    obtain ⟨h18, h⟩ := zif h
    obtain rfl := z_res h
    exact g
  have h := ziff h c19
  by_cases c23 : l1 = (6 : Int32)
  · have h := zift h c23
    obtain ⟨h20, h⟩ := zif h
    have r8 : Rg (z_p M l0 2) := g.cl _ _ hR_l0
    obtain ⟨h21, h⟩ := zif h
    have r9 : Rg (z_p M (z_p M l0 2) 0) := g.cl _ _ r8
    obtain ⟨h22, h⟩ := zif h
    obtain rfl := z_res h
    exact g
  have h := ziff h c23
  by_cases c26 : l1 = (7 : Int32)
  · have h := zift h c26
    obtain ⟨h24, h⟩ := zif h
    have r10 : Rg (z_p M l0 2) := g.cl _ _ hR_l0
    obtain ⟨h25, h⟩ := zif h
    obtain rfl := z_res h
    exact g
  have h := ziff h c26
  obtain rfl := z_res h
  exact g
theorem G_SF_about {Rg : Nat → Prop} {O : zO} {n : Nat} {l0 : Nat} {l1 : Int32} {M : zM} {q : Int32 × zM} (hcl : zCl Rg M) (hR_l0 : Rg l0) (h : F_SF_about O n l0 l1 M = some q) : zFr Rg M q.2 := g_SF_about_0 n l0 l1 M hcl hR_l0 h

set_option maxRecDepth 100000 in
set_option maxHeartbeats 4000000 in
theorem g_SF_size_0 {Rg : Nat → Prop} {O : zO} {q : Int32 × zM} : ∀ (n : Nat) (l0 : Nat) (M : zM), zCl Rg M → Rg l0 → f_SF_size_0 O n l0 M = some q → zFr Rg M q.2 := by
  intro n l0 M hcl hR_l0 h
  rw [f_SF_size_0] at h
  have g := zFr.rf hcl
  obtain ⟨h1, h⟩ := zif h
  have r1 : Rg (z_p M l0 1) := g.cl _ _ hR_l0
  obtain ⟨h2, h⟩ := zif h
  obtain rfl := z_res h
  exact g
theorem G_SF_size {Rg : Nat → Prop} {O : zO} {n : Nat} {l0 : Nat} {M : zM} {q : Int32 × zM} (hcl : zCl Rg M) (hR_l0 : Rg l0) (h : F_SF_size O n l0 M = some q) : zFr Rg M q.2 := g_SF_size_0 n l0 M hcl hR_l0 h

set_option maxRecDepth 100000 in
set_option maxHeartbeats 4000000 in
theorem g_SF_byteAt_27 {Rg : Nat → Prop} {O : zO} {q : Int32 × zM} : ∀ (n : Nat) (s0 : Int32) (M : zM), zCl Rg M → f_SF_byteAt_27 O n s0 M = some q → zFr Rg M q.2 := by
  intro n s0 M hcl h
  rw [f_SF_byteAt_27] at h
  have g := zFr.rf hcl
  obtain rfl := z_res h
  exact g
set_option maxRecDepth 100000 in
set_option maxHeartbeats 4000000 in
theorem g_SF_byteAt_26 {Rg : Nat → Prop} {O : zO} {q : Int32 × zM} : ∀ (n : Nat) (M : zM), zCl Rg M → f_SF_byteAt_26 O n M = some q → zFr Rg M q.2 := by
  intro n M hcl h
  rw [f_SF_byteAt_26] at h
  have g := zFr.rf hcl
  exact g.tr (g_SF_byteAt_27 n (-1 : Int32) M g.cl h)
set_option maxRecDepth 100000 in
set_option maxHeartbeats 4000000 in
theorem g_SF_byteAt_0 {Rg : Nat → Prop} {O : zO} {q : Int32 × zM} : ∀ (n : Nat) (l0 : Nat) (l1 : Int32) (M : zM), zCl Rg M → Rg l0 → f_SF_byteAt_0 O n l0 l1 M = some q → zFr Rg M q.2 := by
  intro n l0 l1 M hcl hR_l0 h
  rw [f_SF_byteAt_0] at h
  have g := zFr.rf hcl
  by_cases c6 : l1 < 0
  · have h := zift h c6
    exact g.tr (g_SF_byteAt_26 n M g.cl h)
  · have h := ziff h c6
    obtain ⟨h1, h⟩ := zif h
    have r1 : Rg (z_p M l0 1) := g.cl _ _ hR_l0
    obtain ⟨h2, h⟩ := zif h
    by_cases c5 : (z_i M (z_p M l0 1) 1) ≤ l1
    · have h := zift h c5
      exact g.tr (g_SF_byteAt_26 n M g.cl h)
    · have h := ziff h c5
      have r2 : Rg (z_p M l0 1) := g.cl _ _ hR_l0
      obtain ⟨q3, c4, h⟩ := zbd h
      have g := g.tr (G_Row_at g.cl r2 c4)
      exact g.tr (g_SF_byteAt_27 n q3.1 q3.2 g.cl h)
theorem G_SF_byteAt {Rg : Nat → Prop} {O : zO} {n : Nat} {l0 : Nat} {l1 : Int32} {M : zM} {q : Int32 × zM} (hcl : zCl Rg M) (hR_l0 : Rg l0) (h : F_SF_byteAt O n l0 l1 M = some q) : zFr Rg M q.2 := g_SF_byteAt_0 n l0 l1 M hcl hR_l0 h

set_option maxRecDepth 100000 in
set_option maxHeartbeats 4000000 in
theorem g_Mo_write_23 {Rg : Nat → Prop} {O : zO} {q : Int32 × zM} : ∀ (n : Nat) (M : zM), zCl Rg M → f_Mo_write_23 O n M = some q → zFr Rg M q.2 := by
  intro n M hcl h
  rw [f_Mo_write_23] at h
  have g := zFr.rf hcl
  obtain rfl := z_res h
  exact g
set_option maxRecDepth 100000 in
set_option maxHeartbeats 4000000 in
theorem g_Mo_write_28 {Rg : Nat → Prop} {O : zO} {q : Int32 × zM} : ∀ (n : Nat) (l0 : Nat) (l1 : Int64) (l3 : Int32) (l4 : Int32) (M : zM), zCl Rg M → Rg l0 → f_Mo_write_28 O n l0 l1 l3 l4 M = some q → zFr Rg M q.2 := by
  intro n
  induction n with
  | zero => intro l0 l1 l3 l4 M hcl hR_l0 h; rw [f_Mo_write_28] at h; cases h
  | succ n ih =>
    intro l0 l1 l3 l4 M hcl hR_l0 h
    rw [f_Mo_write_28] at h
    have g := zFr.rf hcl
    by_cases c14 : l3 ≤ l4
    · have h := zift h c14
      obtain rfl := z_res h
      exact g
    · have h := ziff h c14
      obtain ⟨h1, h⟩ := zif h
      have r1 : Rg (z_p M l0 0) := g.cl _ _ hR_l0
      obtain ⟨h2, h⟩ := zif h
      obtain ⟨h3, h⟩ := zif h
      obtain ⟨M4, e5, h⟩ := zlet_ex h
      have g := g.i r1 e5
      have h6 := k_i e5 h1
      have h7 := k_i e5 h2
      obtain ⟨M8, e9, h⟩ := zlet_ex h
      have g := g.i hR_l0 e9
      have h10 := k_i e9 h6
      have h11 := k_i e9 h7
      obtain ⟨v12, e13, h⟩ := zlet_ex h
      exact g.tr (ih l0 l1 l3 v12 M8 g.cl hR_l0 h)
set_option maxRecDepth 100000 in
set_option maxHeartbeats 4000000 in
theorem g_Mo_write_0 {Rg : Nat → Prop} {O : zO} {q : Int32 × zM} : ∀ (n : Nat) (l0 : Nat) (l1 : Int64) (l3 : Int32) (M : zM), zCl Rg M → Rg l0 → f_Mo_write_0 O n l0 l1 l3 M = some q → zFr Rg M q.2 := by
  intro n l0 l1 l3 M hcl hR_l0 h
  rw [f_Mo_write_0] at h
  have g := zFr.rf hcl
  by_cases c4 : l3 < (1 : Int32)
  · have h := zift h c4
    exact g.tr (g_Mo_write_23 n M g.cl h)
  · have h := ziff h c4
    by_cases c3 : (8 : Int32) < l3
    · have h := zift h c3
      exact g.tr (g_Mo_write_23 n M g.cl h)
    · have h := ziff h c3
      obtain ⟨h1, h⟩ := zif h
      by_cases c2 : ((z_i M l0 1) + l3) ≤ (12000 : Int32)
      · have h := zift h c2
        exact g.tr (g_Mo_write_28 n l0 l1 l3 (0 : Int32) M g.cl hR_l0 h)
      · have h := ziff h c2
        exact g.tr (g_Mo_write_23 n M g.cl h)
theorem G_Mo_write {Rg : Nat → Prop} {O : zO} {n : Nat} {l0 : Nat} {l1 : Int64} {l3 : Int32} {M : zM} {q : Int32 × zM} (hcl : zCl Rg M) (hR_l0 : Rg l0) (h : F_Mo_write O n l0 l1 l3 M = some q) : zFr Rg M q.2 := g_Mo_write_0 n l0 l1 l3 M hcl hR_l0 h

set_option maxRecDepth 100000 in
set_option maxHeartbeats 4000000 in
theorem g_Mo_again_35 {Rg : Nat → Prop} {O : zO} {q : Int32 × zM} : ∀ (n : Nat) (M : zM), zCl Rg M → f_Mo_again_35 O n M = some q → zFr Rg M q.2 := by
  intro n M hcl h
  rw [f_Mo_again_35] at h
  have g := zFr.rf hcl
  obtain rfl := z_res h
  exact g
set_option maxRecDepth 100000 in
set_option maxHeartbeats 4000000 in
theorem g_Mo_again_39 {Rg : Nat → Prop} {O : zO} {q : Int32 × zM} : ∀ (n : Nat) (l0 : Nat) (l1 : Int32) (l2 : Int32) (l3 : Int32) (M : zM), zCl Rg M → Rg l0 → f_Mo_again_39 O n l0 l1 l2 l3 M = some q → zFr Rg M q.2 := by
  intro n
  induction n with
  | zero => intro l0 l1 l2 l3 M hcl hR_l0 h; rw [f_Mo_again_39] at h; cases h
  | succ n ih =>
    intro l0 l1 l2 l3 M hcl hR_l0 h
    rw [f_Mo_again_39] at h
    have g := zFr.rf hcl
    by_cases c15 : (l1 * l2) ≤ l3
    · have h := zift h c15
      obtain rfl := z_res h
      exact g
    · have h := ziff h c15
      obtain ⟨h1, h⟩ := zif h
      have r1 : Rg (z_p M l0 0) := g.cl _ _ hR_l0
      have r2 : Rg (z_p M l0 0) := g.cl _ _ hR_l0
      obtain ⟨h2, h⟩ := zif h
      obtain ⟨h3, h⟩ := zif h
      obtain ⟨h4, h⟩ := zif h
      obtain ⟨M5, e6, h⟩ := zlet_ex h
      have g := g.i r2 e6
      have h7 := k_i e6 h1
      have h8 := k_i e6 h2
      obtain ⟨M9, e10, h⟩ := zlet_ex h
      have g := g.i hR_l0 e10
      have h11 := k_i e10 h7
      have h12 := k_i e10 h8
      obtain ⟨v13, e14, h⟩ := zlet_ex h
      exact g.tr (ih l0 l1 l2 v13 M9 g.cl hR_l0 h)
set_option maxRecDepth 100000 in
set_option maxHeartbeats 4000000 in
theorem g_Mo_again_0 {Rg : Nat → Prop} {O : zO} {q : Int32 × zM} : ∀ (n : Nat) (l0 : Nat) (l1 : Int32) (l2 : Int32) (M : zM), zCl Rg M → Rg l0 → f_Mo_again_0 O n l0 l1 l2 M = some q → zFr Rg M q.2 := by
  intro n l0 l1 l2 M hcl hR_l0 h
  rw [f_Mo_again_0] at h
  have g := zFr.rf hcl
  by_cases c5 : l1 < (1 : Int32)
  · have h := zift h c5
    exact g.tr (g_Mo_again_35 n M g.cl h)
  · have h := ziff h c5
    obtain ⟨h1, h⟩ := zif h
    by_cases c4 : (z_i M l0 1) < l1
    · have h := zift h c4
      exact g.tr (g_Mo_again_35 n M g.cl h)
    · have h := ziff h c4
      by_cases c3 : l2 < 0
      · have h := zift h c3
        exact g.tr (g_Mo_again_35 n M g.cl h)
      · have h := ziff h c3
        by_cases c2 : (lg_cmp (l1.toInt64 * l2.toInt64) ((12000 : Int32) - (z_i M l0 1)).toInt64) ≤ 0
        · have h := zift h c2
          exact g.tr (g_Mo_again_39 n l0 l1 l2 (0 : Int32) M g.cl hR_l0 h)
        · have h := ziff h c2
          exact g.tr (g_Mo_again_35 n M g.cl h)
theorem G_Mo_again {Rg : Nat → Prop} {O : zO} {n : Nat} {l0 : Nat} {l1 : Int32} {l2 : Int32} {M : zM} {q : Int32 × zM} (hcl : zCl Rg M) (hR_l0 : Rg l0) (h : F_Mo_again O n l0 l1 l2 M = some q) : zFr Rg M q.2 := g_Mo_again_0 n l0 l1 l2 M hcl hR_l0 h

set_option maxRecDepth 100000 in
set_option maxHeartbeats 4000000 in
theorem g_Mo_clear_0 {Rg : Nat → Prop} {O : zO} {q : Unit × zM} : ∀ (n : Nat) (l0 : Nat) (M : zM), zCl Rg M → Rg l0 → f_Mo_clear_0 O n l0 M = some q → zFr Rg M q.2 := by
  intro n l0 M hcl hR_l0 h
  rw [f_Mo_clear_0] at h
  have g := zFr.rf hcl
  obtain ⟨h1, h⟩ := zif h
  obtain ⟨M2, e3, h⟩ := zlet_ex h
  have g := g.i hR_l0 e3
  have h4 := k_i e3 h1
  obtain rfl := z_res h
  exact g
theorem G_Mo_clear {Rg : Nat → Prop} {O : zO} {n : Nat} {l0 : Nat} {M : zM} {q : Unit × zM} (hcl : zCl Rg M) (hR_l0 : Rg l0) (h : F_Mo_clear O n l0 M = some q) : zFr Rg M q.2 := g_Mo_clear_0 n l0 M hcl hR_l0 h

set_option maxRecDepth 100000 in
set_option maxHeartbeats 4000000 in
theorem g_Mo_forget_0 {Rg : Nat → Prop} {O : zO} {q : Unit × zM} : ∀ (n : Nat) (l0 : Nat) (M : zM), zCl Rg M → Rg l0 → f_Mo_forget_0 O n l0 M = some q → zFr Rg M q.2 := by
  intro n l0 M hcl hR_l0 h
  rw [f_Mo_forget_0] at h
  have g := zFr.rf hcl
  obtain ⟨h1, h⟩ := zif h
  obtain ⟨M2, e3, h⟩ := zlet_ex h
  have g := g.i hR_l0 e3
  have h4 := k_i e3 h1
  obtain ⟨M5, e6, h⟩ := zlet_ex h
  have g := g.i hR_l0 e6
  have h7 := k_i e6 h4
  obtain ⟨M8, e9, h⟩ := zlet_ex h
  have g := g.i hR_l0 e9
  have h10 := k_i e9 h7
  obtain rfl := z_res h
  exact g
theorem G_Mo_forget {Rg : Nat → Prop} {O : zO} {n : Nat} {l0 : Nat} {M : zM} {q : Unit × zM} (hcl : zCl Rg M) (hR_l0 : Rg l0) (h : F_Mo_forget O n l0 M = some q) : zFr Rg M q.2 := g_Mo_forget_0 n l0 M hcl hR_l0 h

set_option maxRecDepth 100000 in
set_option maxHeartbeats 4000000 in
theorem g_Mo_stands_53 {Rg : Nat → Prop} {O : zO} {q : Int32 × zM} : ∀ (n : Nat) (s0 : Int32) (M : zM), zCl Rg M → f_Mo_stands_53 O n s0 M = some q → zFr Rg M q.2 := by
  intro n s0 M hcl h
  rw [f_Mo_stands_53] at h
  have g := zFr.rf hcl
  obtain ⟨h1, h⟩ := zif h
  obtain rfl := z_res h
  exact g
set_option maxRecDepth 100000 in
set_option maxHeartbeats 4000000 in
theorem g_Mo_stands_52 {Rg : Nat → Prop} {O : zO} {q : Int32 × zM} : ∀ (n : Nat) (M : zM), zCl Rg M → f_Mo_stands_52 O n M = some q → zFr Rg M q.2 := by
  intro n M hcl h
  rw [f_Mo_stands_52] at h
  have g := zFr.rf hcl
  exact g.tr (g_Mo_stands_53 n (0 : Int32) M g.cl h)
set_option maxRecDepth 100000 in
set_option maxHeartbeats 4000000 in
theorem g_Mo_stands_0 {Rg : Nat → Prop} {O : zO} {q : Int32 × zM} : ∀ (n : Nat) (l0 : Nat) (l1 : Int32) (l2 : Int32) (l3 : Int32) (l4 : Int32) (l5 : Int32) (M : zM), zCl Rg M → Rg l0 → f_Mo_stands_0 O n l0 l1 l2 l3 l4 l5 M = some q → zFr Rg M q.2 := by
  intro n l0 l1 l2 l3 l4 l5 M hcl hR_l0 h
  rw [f_Mo_stands_0] at h
  have g := zFr.rf hcl
  obtain ⟨h1, h⟩ := zif h
  have r1 : Rg (z_p M l0 0) := g.cl _ _ hR_l0
  obtain ⟨h2, h⟩ := zif h
  obtain ⟨h3, h⟩ := zif h
  by_cases c10 : (z_i M (z_p M l0 0) l1.toNatClampNeg) = l2
  · have h := zift h c10
    have r2 : Rg (z_p M l0 0) := g.cl _ _ hR_l0
    obtain ⟨h4, h⟩ := zif h
    by_cases c9 : (z_i M (z_p M l0 0) (l1 + (1 : Int32)).toNatClampNeg) = l3
    · have h := zift h c9
      have r3 : Rg (z_p M l0 0) := g.cl _ _ hR_l0
      obtain ⟨h5, h⟩ := zif h
      by_cases c8 : (z_i M (z_p M l0 0) (l1 + (2 : Int32)).toNatClampNeg) = l4
      · have h := zift h c8
        have r4 : Rg (z_p M l0 0) := g.cl _ _ hR_l0
        obtain ⟨h6, h⟩ := zif h
        by_cases c7 : (z_i M (z_p M l0 0) (l1 + (3 : Int32)).toNatClampNeg) = l5
        · have h := zift h c7
          exact g.tr (g_Mo_stands_53 n (1 : Int32) M g.cl h)
        · have h := ziff h c7
          exact g.tr (g_Mo_stands_52 n M g.cl h)
      · have h := ziff h c8
        exact g.tr (g_Mo_stands_52 n M g.cl h)
    · have h := ziff h c9
      exact g.tr (g_Mo_stands_52 n M g.cl h)
  · have h := ziff h c10
    exact g.tr (g_Mo_stands_52 n M g.cl h)
theorem G_Mo_stands {Rg : Nat → Prop} {O : zO} {n : Nat} {l0 : Nat} {l1 : Int32} {l2 : Int32} {l3 : Int32} {l4 : Int32} {l5 : Int32} {M : zM} {q : Int32 × zM} (hcl : zCl Rg M) (hR_l0 : Rg l0) (h : F_Mo_stands O n l0 l1 l2 l3 l4 l5 M = some q) : zFr Rg M q.2 := g_Mo_stands_0 n l0 l1 l2 l3 l4 l5 M hcl hR_l0 h

set_option maxRecDepth 100000 in
set_option maxHeartbeats 4000000 in
theorem g_Mo_bit_0 {Rg : Nat → Prop} {O : zO} {q : Int32 × zM} : ∀ (n : Nat) (l0 : Nat) (l1 : Int32) (M : zM), zCl Rg M → Rg l0 → f_Mo_bit_0 O n l0 l1 M = some q → zFr Rg M q.2 := by
  intro n l0 l1 M hcl hR_l0 h
  rw [f_Mo_bit_0] at h
  have g := zFr.rf hcl
  obtain ⟨h1, h⟩ := zif h
  have r1 : Rg (z_p M l0 0) := g.cl _ _ hR_l0
  obtain ⟨h2, h⟩ := zif h
  obtain ⟨h3, h⟩ := zif h
  obtain rfl := z_res h
  exact g
theorem G_Mo_bit {Rg : Nat → Prop} {O : zO} {n : Nat} {l0 : Nat} {l1 : Int32} {M : zM} {q : Int32 × zM} (hcl : zCl Rg M) (hR_l0 : Rg l0) (h : F_Mo_bit O n l0 l1 M = some q) : zFr Rg M q.2 := g_Mo_bit_0 n l0 l1 M hcl hR_l0 h

set_option maxRecDepth 100000 in
set_option maxHeartbeats 4000000 in
theorem g_Mo_highest_4 {Rg : Nat → Prop} {O : zO} {q : Int32 × zM} : ∀ (n : Nat) (l1 : Int32) (l2 : Int32) (M : zM), zCl Rg M → f_Mo_highest_4 O n l1 l2 M = some q → zFr Rg M q.2 := by
  intro n
  induction n with
  | zero => intro l1 l2 M hcl h; rw [f_Mo_highest_4] at h; cases h
  | succ n ih =>
    intro l1 l2 M hcl h
    rw [f_Mo_highest_4] at h
    have g := zFr.rf hcl
    by_cases c5 : l2 ≤ 0
    · have h := zift h c5
      obtain rfl := z_res h
      exact g
    · have h := ziff h c5
      obtain ⟨v1, e2, h⟩ := zlet_ex h
      obtain ⟨v3, e4, h⟩ := zlet_ex h
      exact g.tr (ih v1 v3 M g.cl h)
set_option maxRecDepth 100000 in
set_option maxHeartbeats 4000000 in
theorem g_Mo_highest_0 {Rg : Nat → Prop} {O : zO} {q : Int32 × zM} : ∀ (n : Nat) (l0 : Int32) (M : zM), zCl Rg M → f_Mo_highest_0 O n l0 M = some q → zFr Rg M q.2 := by
  intro n l0 M hcl h
  rw [f_Mo_highest_0] at h
  have g := zFr.rf hcl
  exact g.tr (g_Mo_highest_4 n (-1 : Int32) l0 M g.cl h)
theorem G_Mo_highest {Rg : Nat → Prop} {O : zO} {n : Nat} {l0 : Int32} {M : zM} {q : Int32 × zM} (hcl : zCl Rg M) (h : F_Mo_highest O n l0 M = some q) : zFr Rg M q.2 := g_Mo_highest_0 n l0 M hcl h

set_option maxRecDepth 100000 in
set_option maxHeartbeats 4000000 in
theorem g_Mo_share_379 {Rg : Nat → Prop} {O : zO} {q : Int32 × zM} {k118 : Nat → Int32 → Int32 → Int32 → Int32 → Int32 → zM → Option (Int32 × zM)} (hk118 : ∀ (l0 : Nat) (l4 : Int32) (l5 : Int32) (l6 : Int32) (l7 : Int32) (l8 : Int32) (M : zM), zCl Rg M → Rg l0 → k118 l0 l4 l5 l6 l7 l8 M = some q → zFr Rg M q.2) {k312 : Nat → Int32 → Int32 → Int32 → Int32 → Int32 → Int32 → zM → Option (Int32 × zM)} (hk312 : ∀ (l0 : Nat) (l4 : Int32) (l5 : Int32) (l6 : Int32) (l7 : Int32) (l8 : Int32) (l13 : Int32) (M : zM), zCl Rg M → Rg l0 → k312 l0 l4 l5 l6 l7 l8 l13 M = some q → zFr Rg M q.2) : ∀ (n : Nat) (l0 : Nat) (l4 : Int32) (l5 : Int32) (l6 : Int32) (l7 : Int32) (l8 : Int32) (s0 : Int32) (M : zM), zCl Rg M → Rg l0 → f_Mo_share_379 O k118 k312 n l0 l4 l5 l6 l7 l8 s0 M = some q → zFr Rg M q.2 := by
  intro n l0 l4 l5 l6 l7 l8 s0 M hcl hR_l0 h
  rw [f_Mo_share_379] at h
  have g := zFr.rf hcl
  exact g.tr (hk312 l0 l4 l5 l6 l7 l8 s0 M g.cl hR_l0 h)
set_option maxRecDepth 100000 in
set_option maxHeartbeats 4000000 in
theorem g_Mo_share_312 {Rg : Nat → Prop} {O : zO} {q : Int32 × zM} {k118 : Nat → Int32 → Int32 → Int32 → Int32 → Int32 → zM → Option (Int32 × zM)} (hk118 : ∀ (l0 : Nat) (l4 : Int32) (l5 : Int32) (l6 : Int32) (l7 : Int32) (l8 : Int32) (M : zM), zCl Rg M → Rg l0 → k118 l0 l4 l5 l6 l7 l8 M = some q → zFr Rg M q.2) : ∀ (n : Nat) (l0 : Nat) (l4 : Int32) (l5 : Int32) (l6 : Int32) (l7 : Int32) (l8 : Int32) (l13 : Int32) (M : zM), zCl Rg M → Rg l0 → f_Mo_share_312 O k118 n l0 l4 l5 l6 l7 l8 l13 M = some q → zFr Rg M q.2 := by
  intro n
  induction n with
  | zero => intro l0 l4 l5 l6 l7 l8 l13 M hcl hR_l0 h; rw [f_Mo_share_312] at h; cases h
  | succ n ih =>
    intro l0 l4 l5 l6 l7 l8 l13 M hcl hR_l0 h
    rw [f_Mo_share_312] at h
    have g := zFr.rf hcl
    by_cases c16 : l13 = 0
    · have h := zift h c16
      exact g.tr (hk118 l0 l4 l5 l6 l7 l8 M g.cl hR_l0 h)
    · have h := ziff h c16
      by_cases c15 : (l5 + (2 : Int32)) ≤ l6
      · have h := zift h c15
        obtain ⟨h1, h⟩ := zif h
        obtain ⟨q2, c3, h⟩ := zbd h
        have g := g.tr (G_Mo_bit g.cl hR_l0 c3)
        obtain ⟨h4, h⟩ := zif h
        obtain ⟨q5, c6, h⟩ := zbd h
        have g := g.tr (G_Mo_bit g.cl hR_l0 c6)
        obtain ⟨v7, e8, h⟩ := zlet_ex h
        obtain ⟨v9, e10, h⟩ := zlet_ex h
        obtain ⟨v11, e12, h⟩ := zlet_ex h
        by_cases c14 : v11 ≤ (l4 + (1 : Int32))
        · have h := zift h c14
          by_cases c13 : v7 = (3 : Int32)
          · have h := zift h c13
            exact g.tr (g_Mo_share_379 hk118 ih n l0 l4 v9 l6 l7 v11 (1 : Int32) q5.2 g.cl hR_l0 h)
          · have h := ziff h c13
            exact g.tr (g_Mo_share_379 hk118 ih n l0 l4 v9 l6 l7 v11 (0 : Int32) q5.2 g.cl hR_l0 h)
        · have h := ziff h c14
          obtain rfl := z_res h
          exact g
      · have h := ziff h c15
        obtain rfl := z_res h
        exact g
set_option maxRecDepth 100000 in
set_option maxHeartbeats 4000000 in
theorem g_Mo_share_310 {Rg : Nat → Prop} {O : zO} {q : Int32 × zM} {k118 : Nat → Int32 → Int32 → Int32 → Int32 → Int32 → zM → Option (Int32 × zM)} (hk118 : ∀ (l0 : Nat) (l4 : Int32) (l5 : Int32) (l6 : Int32) (l7 : Int32) (l8 : Int32) (M : zM), zCl Rg M → Rg l0 → k118 l0 l4 l5 l6 l7 l8 M = some q → zFr Rg M q.2) : ∀ (n : Nat) (l0 : Nat) (l4 : Int32) (l5 : Int32) (l6 : Int32) (l7 : Int32) (l8 : Int32) (s0 : Int32) (M : zM), zCl Rg M → Rg l0 → f_Mo_share_310 O k118 n l0 l4 l5 l6 l7 l8 s0 M = some q → zFr Rg M q.2 := by
  intro n l0 l4 l5 l6 l7 l8 s0 M hcl hR_l0 h
  rw [f_Mo_share_310] at h
  have g := zFr.rf hcl
  exact g.tr (g_Mo_share_312 hk118 n l0 l4 l5 l6 l7 l8 s0 M g.cl hR_l0 h)
set_option maxRecDepth 100000 in
set_option maxHeartbeats 4000000 in
theorem g_Mo_share_293 {Rg : Nat → Prop} {O : zO} {q : Int32 × zM} {k118 : Nat → Int32 → Int32 → Int32 → Int32 → Int32 → zM → Option (Int32 × zM)} (hk118 : ∀ (l0 : Nat) (l4 : Int32) (l5 : Int32) (l6 : Int32) (l7 : Int32) (l8 : Int32) (M : zM), zCl Rg M → Rg l0 → k118 l0 l4 l5 l6 l7 l8 M = some q → zFr Rg M q.2) : ∀ (n : Nat) (l0 : Nat) (l4 : Int32) (l5 : Int32) (l6 : Int32) (l8 : Int32) (l12 : Int32) (s0 : Int32) (s1 : Int32) (M : zM), zCl Rg M → Rg l0 → f_Mo_share_293 O k118 n l0 l4 l5 l6 l8 l12 s0 s1 M = some q → zFr Rg M q.2 := by
  intro n l0 l4 l5 l6 l8 l12 s0 s1 M hcl hR_l0 h
  rw [f_Mo_share_293] at h
  have g := zFr.rf hcl
  obtain ⟨v1, e2, h⟩ := zlet_ex h
  obtain ⟨v3, e4, h⟩ := zlet_ex h
  by_cases c5 : l12 = (1 : Int32)
  · have h := zift h c5
    exact g.tr (g_Mo_share_310 hk118 n l0 l4 l5 l6 v1 v3 (1 : Int32) M g.cl hR_l0 h)
  · have h := ziff h c5
    exact g.tr (g_Mo_share_310 hk118 n l0 l4 l5 l6 v1 v3 (0 : Int32) M g.cl hR_l0 h)
set_option maxRecDepth 100000 in
set_option maxHeartbeats 4000000 in
theorem g_Mo_share_267 {Rg : Nat → Prop} {O : zO} {q : Int32 × zM} {k118 : Nat → Int32 → Int32 → Int32 → Int32 → Int32 → zM → Option (Int32 × zM)} (hk118 : ∀ (l0 : Nat) (l4 : Int32) (l5 : Int32) (l6 : Int32) (l7 : Int32) (l8 : Int32) (M : zM), zCl Rg M → Rg l0 → k118 l0 l4 l5 l6 l7 l8 M = some q → zFr Rg M q.2) : ∀ (n : Nat) (l0 : Nat) (l4 : Int32) (l5 : Int32) (l6 : Int32) (l7 : Int32) (l8 : Int32) (l12 : Int32) (M : zM), zCl Rg M → Rg l0 → f_Mo_share_267 O k118 n l0 l4 l5 l6 l7 l8 l12 M = some q → zFr Rg M q.2 := by
  intro n l0 l4 l5 l6 l7 l8 l12 M hcl hR_l0 h
  rw [f_Mo_share_267] at h
  have g := zFr.rf hcl
  obtain ⟨h1, h⟩ := zif h
  have r2 : Rg (z_p M l0 21) := g.cl _ _ hR_l0
  obtain ⟨h2, h⟩ := zif h
  obtain ⟨h3, h⟩ := zif h
  obtain ⟨M4, e5, h⟩ := zlet_ex h
  have g := g.i r2 e5
  have h6 := k_i e5 h1
  have h7 := k_i e5 h2
  by_cases c8 : l12 = 0
  · have h := zift h c8
    exact g.tr (g_Mo_share_293 hk118 n l0 l4 l5 l6 l8 l12 l7 (1 : Int32) M4 g.cl hR_l0 h)
  · have h := ziff h c8
    exact g.tr (g_Mo_share_293 hk118 n l0 l4 l5 l6 l8 l12 l7 (l12 - (1 : Int32)) M4 g.cl hR_l0 h)
set_option maxRecDepth 100000 in
set_option maxHeartbeats 4000000 in
theorem g_Mo_share_265 {Rg : Nat → Prop} {O : zO} {q : Int32 × zM} {k118 : Nat → Int32 → Int32 → Int32 → Int32 → Int32 → zM → Option (Int32 × zM)} (hk118 : ∀ (l0 : Nat) (l4 : Int32) (l5 : Int32) (l6 : Int32) (l7 : Int32) (l8 : Int32) (M : zM), zCl Rg M → Rg l0 → k118 l0 l4 l5 l6 l7 l8 M = some q → zFr Rg M q.2) : ∀ (n : Nat) (l0 : Nat) (l4 : Int32) (l5 : Int32) (l6 : Int32) (l7 : Int32) (l8 : Int32) (s0 : Int32) (M : zM), zCl Rg M → Rg l0 → f_Mo_share_265 O k118 n l0 l4 l5 l6 l7 l8 s0 M = some q → zFr Rg M q.2 := by
  intro n l0 l4 l5 l6 l7 l8 s0 M hcl hR_l0 h
  rw [f_Mo_share_265] at h
  have g := zFr.rf hcl
  exact g.tr (g_Mo_share_267 hk118 n l0 l4 l5 l6 l7 l8 s0 M g.cl hR_l0 h)
set_option maxRecDepth 100000 in
set_option maxHeartbeats 4000000 in
theorem g_Mo_share_176 {Rg : Nat → Prop} {O : zO} {q : Int32 × zM} {k118 : Nat → Int32 → Int32 → Int32 → Int32 → Int32 → zM → Option (Int32 × zM)} (hk118 : ∀ (l0 : Nat) (l4 : Int32) (l5 : Int32) (l6 : Int32) (l7 : Int32) (l8 : Int32) (M : zM), zCl Rg M → Rg l0 → k118 l0 l4 l5 l6 l7 l8 M = some q → zFr Rg M q.2) : ∀ (n : Nat) (l0 : Nat) (l4 : Int32) (l5 : Int32) (l6 : Int32) (l7 : Int32) (l8 : Int32) (l9 : Int32) (l10 : Int32) (l11 : Int32) (l12 : Int32) (l13 : Int32) (M : zM), zCl Rg M → Rg l0 → f_Mo_share_176 O k118 n l0 l4 l5 l6 l7 l8 l9 l10 l11 l12 l13 M = some q → zFr Rg M q.2 := by
  intro n
  induction n with
  | zero => intro l0 l4 l5 l6 l7 l8 l9 l10 l11 l12 l13 M hcl hR_l0 h; rw [f_Mo_share_176] at h; cases h
  | succ n ih =>
    intro l0 l4 l5 l6 l7 l8 l9 l10 l11 l12 l13 M hcl hR_l0 h
    rw [f_Mo_share_176] at h
    have g := zFr.rf hcl
    by_cases c20 : l9 ≤ l13
    · have h := zift h c20
      obtain ⟨v1, e2, h⟩ := zlet_ex h
      by_cases c12 : l12 < l11
      · have h := zift h c12
        exact g.tr (g_Mo_share_267 hk118 n l0 l4 v1 l6 l7 l8 l12 M g.cl hR_l0 h)
      · have h := ziff h c12
        by_cases c11 : (v1 + (1 : Int32)) ≤ l6
        · have h := zift h c11
          obtain ⟨h3, h⟩ := zif h
          obtain ⟨q4, c5, h⟩ := zbd h
          have g := g.tr (G_Mo_bit g.cl hR_l0 c5)
          obtain ⟨v6, e7, h⟩ := zlet_ex h
          obtain ⟨v8, e9, h⟩ := zlet_ex h
          by_cases c10 : v6 < l10
          · have h := zift h c10
            exact g.tr (g_Mo_share_265 hk118 n l0 l4 v8 l6 l7 l8 v6 q4.2 g.cl hR_l0 h)
          · have h := ziff h c10
            exact g.tr (g_Mo_share_265 hk118 n l0 l4 v8 l6 l7 l8 (v6 - l11) q4.2 g.cl hR_l0 h)
        · have h := ziff h c11
          obtain rfl := z_res h
          exact g
    · have h := ziff h c20
      obtain ⟨h13, h⟩ := zif h
      obtain ⟨q14, c15, h⟩ := zbd h
      have g := g.tr (G_Mo_bit g.cl hR_l0 c15)
      obtain ⟨v16, e17, h⟩ := zlet_ex h
      obtain ⟨v18, e19, h⟩ := zlet_ex h
      exact g.tr (ih l0 l4 l5 l6 l7 l8 l9 l10 l11 v16 v18 q14.2 g.cl hR_l0 h)
set_option maxRecDepth 100000 in
set_option maxHeartbeats 4000000 in
theorem g_Mo_share_118 {Rg : Nat → Prop} {O : zO} {q : Int32 × zM} : ∀ (n : Nat) (l0 : Nat) (l4 : Int32) (l5 : Int32) (l6 : Int32) (l7 : Int32) (l8 : Int32) (M : zM), zCl Rg M → Rg l0 → f_Mo_share_118 O n l0 l4 l5 l6 l7 l8 M = some q → zFr Rg M q.2 := by
  intro n
  induction n with
  | zero => intro l0 l4 l5 l6 l7 l8 M hcl hR_l0 h; rw [f_Mo_share_118] at h; cases h
  | succ n ih =>
    intro l0 l4 l5 l6 l7 l8 M hcl hR_l0 h
    rw [f_Mo_share_118] at h
    have g := zFr.rf hcl
    by_cases c9 : l7 ≤ 0
    · have h := zift h c9
      obtain rfl := z_res h
      exact g
    · have h := ziff h c9
      by_cases c8 : l8 ≤ l4
      · have h := zift h c8
        obtain ⟨q1, c2, h⟩ := zbd h
        have g := g.tr (G_Mo_highest g.cl c2)
        obtain ⟨v3, e4, h⟩ := zlet_ex h
        obtain ⟨v5, e6, h⟩ := zlet_ex h
        by_cases c7 : (l5 + q1.1) ≤ l6
        · have h := zift h c7
          exact g.tr (g_Mo_share_176 ih n l0 l4 l5 l6 l7 l8 q1.1 v3 v5 (0 : Int32) (0 : Int32) q1.2 g.cl hR_l0 h)
        · have h := ziff h c7
          obtain rfl := z_res h
          exact g
      · have h := ziff h c8
        obtain rfl := z_res h
        exact g
set_option maxRecDepth 100000 in
set_option maxHeartbeats 4000000 in
theorem g_Mo_share_85 {Rg : Nat → Prop} {O : zO} {q : Int32 × zM} : ∀ (n : Nat) (l0 : Nat) (l4 : Int32) (l5 : Int32) (l6 : Int32) (l7 : Int32) (M : zM), zCl Rg M → Rg l0 → f_Mo_share_85 O n l0 l4 l5 l6 l7 M = some q → zFr Rg M q.2 := by
  intro n
  induction n with
  | zero => intro l0 l4 l5 l6 l7 M hcl hR_l0 h; rw [f_Mo_share_85] at h; cases h
  | succ n ih =>
    intro l0 l4 l5 l6 l7 M hcl hR_l0 h
    rw [f_Mo_share_85] at h
    have g := zFr.rf hcl
    by_cases c13 : (256 : Int32) ≤ l7
    · have h := zift h c13
      obtain ⟨h1, h⟩ := zif h
      obtain ⟨v2, e3, h⟩ := zlet_ex h
      exact g.tr (g_Mo_share_118 n l0 l4 l5 l6 v2 (0 : Int32) M g.cl hR_l0 h)
    · have h := ziff h c13
      obtain ⟨h4, h⟩ := zif h
      have r1 : Rg (z_p M l0 21) := g.cl _ _ hR_l0
      obtain ⟨h5, h⟩ := zif h
      obtain ⟨h6, h⟩ := zif h
      obtain ⟨M7, e8, h⟩ := zlet_ex h
      have g := g.i r1 e8
      have h9 := k_i e8 h4
      have h10 := k_i e8 h5
      obtain ⟨v11, e12, h⟩ := zlet_ex h
      exact g.tr (ih l0 l4 l5 l6 v11 M7 g.cl hR_l0 h)
set_option maxRecDepth 100000 in
set_option maxHeartbeats 4000000 in
theorem g_Mo_share_0 {Rg : Nat → Prop} {O : zO} {q : Int32 × zM} : ∀ (n : Nat) (l0 : Nat) (l1 : Int32) (l2 : Int32) (l3 : Int32) (l4 : Int32) (M : zM), zCl Rg M → Rg l0 → f_Mo_share_0 O n l0 l1 l2 l3 l4 M = some q → zFr Rg M q.2 := by
  intro n l0 l1 l2 l3 l4 M hcl hR_l0 h
  rw [f_Mo_share_0] at h
  have g := zFr.rf hcl
  obtain ⟨v1, e2, h⟩ := zlet_ex h
  obtain ⟨v3, e4, h⟩ := zlet_ex h
  by_cases c24 : (v1 + (4 : Int32)) ≤ v3
  · have h := zift h c24
    obtain ⟨h5, h⟩ := zif h
    obtain ⟨q6, c7, h⟩ := zbd h
    have g := g.tr (G_Mo_bit g.cl hR_l0 c7)
    obtain ⟨h8, h⟩ := zif h
    obtain ⟨q9, c10, h⟩ := zbd h
    have g := g.tr (G_Mo_bit g.cl hR_l0 c10)
    obtain ⟨h11, h⟩ := zif h
    obtain ⟨q12, c13, h⟩ := zbd h
    have g := g.tr (G_Mo_bit g.cl hR_l0 c13)
    obtain ⟨h14, h⟩ := zif h
    obtain ⟨q15, c16, h⟩ := zbd h
    have g := g.tr (G_Mo_bit g.cl hR_l0 c16)
    obtain ⟨h17, h⟩ := zif h
    obtain ⟨M18, e19, h⟩ := zlet_ex h
    have g := g.i hR_l0 e19
    have h20 := k_i e19 h17
    obtain ⟨v21, e22, h⟩ := zlet_ex h
    by_cases c23 : (z_i M18 l0 22) ≤ l3
    · have h := zift h c23
      exact g.tr (g_Mo_share_85 n l0 l4 v21 v3 (0 : Int32) M18 g.cl hR_l0 h)
    · have h := ziff h c23
      obtain rfl := z_res h
      exact g
  · have h := ziff h c24
    obtain rfl := z_res h
    exact g
theorem G_Mo_share {Rg : Nat → Prop} {O : zO} {n : Nat} {l0 : Nat} {l1 : Int32} {l2 : Int32} {l3 : Int32} {l4 : Int32} {M : zM} {q : Int32 × zM} (hcl : zCl Rg M) (hR_l0 : Rg l0) (h : F_Mo_share O n l0 l1 l2 l3 l4 M = some q) : zFr Rg M q.2 := g_Mo_share_0 n l0 l1 l2 l3 l4 M hcl hR_l0 h

set_option maxRecDepth 100000 in
set_option maxHeartbeats 4000000 in
theorem g_Mo_open_16 {Rg : Nat → Prop} {O : zO} {q : Int32 × zM} : ∀ (n : Nat) (M : zM), zCl Rg M → f_Mo_open_16 O n M = some q → zFr Rg M q.2 := by
  intro n M hcl h
  rw [f_Mo_open_16] at h
  have g := zFr.rf hcl
  obtain rfl := z_res h
  exact g
set_option maxRecDepth 100000 in
set_option maxHeartbeats 4000000 in
theorem g_Mo_open_0 {Rg : Nat → Prop} {O : zO} {q : Int32 × zM} : ∀ (n : Nat) (l0 : Nat) (l1 : Int32) (l2 : Int32) (M : zM), zCl Rg M → Rg l0 → f_Mo_open_0 O n l0 l1 l2 M = some q → zFr Rg M q.2 := by
  intro n l0 l1 l2 M hcl hR_l0 h
  rw [f_Mo_open_0] at h
  have g := zFr.rf hcl
  by_cases c17 : l2 ≤ l1
  · have h := zift h c17
    exact g.tr (g_Mo_open_16 n M g.cl h)
  · have h := ziff h c17
    obtain ⟨h1, h⟩ := zif h
    have r1 : Rg (z_p M l0 0) := g.cl _ _ hR_l0
    obtain ⟨h2, h⟩ := zif h
    obtain ⟨h3, h⟩ := zif h
    by_cases c16 : (z_i M (z_p M l0 0) (l2 - (1 : Int32)).toNatClampNeg) = 0
    · have h := zift h c16
      exact g.tr (g_Mo_open_16 n M g.cl h)
    · have h := ziff h c16
      obtain ⟨M4, e5, h⟩ := zlet_ex h
      have g := g.i hR_l0 e5
      have h6 := k_i e5 h1
      have h7 := k_i e5 h2
      have r2 : Rg (z_p M4 l0 0) := g.cl _ _ hR_l0
      obtain ⟨h8, h⟩ := zif h
      obtain ⟨h9, h⟩ := zif h
      obtain ⟨q10, c11, h⟩ := zbd h
      have g := g.tr (G_Mo_highest g.cl c11)
      obtain ⟨h12, h⟩ := zif h
      obtain ⟨M13, e14, h⟩ := zlet_ex h
      have g := g.i hR_l0 e14
      have h15 := k_i e14 h12
      obtain rfl := z_res h
      exact g
theorem G_Mo_open {Rg : Nat → Prop} {O : zO} {n : Nat} {l0 : Nat} {l1 : Int32} {l2 : Int32} {M : zM} {q : Int32 × zM} (hcl : zCl Rg M) (hR_l0 : Rg l0) (h : F_Mo_open O n l0 l1 l2 M = some q) : zFr Rg M q.2 := g_Mo_open_0 n l0 l1 l2 M hcl hR_l0 h

set_option maxRecDepth 100000 in
set_option maxHeartbeats 4000000 in
theorem g_Mo_lay_207 {Rg : Nat → Prop} {O : zO} {q : Unit × zM} : ∀ (n : Nat) (l0 : Nat) (l4 : Int32) (l5 : Nat) (l6 : Nat) (l7 : Nat) (l8 : Int32) (l9 : Int32) (l13 : Int32) (M : zM), zCl Rg M → Rg l0 → Rg l5 → Rg l6 → Rg l7 → f_Mo_lay_207 O n l0 l4 l5 l6 l7 l8 l9 l13 M = some q → zFr Rg M q.2 := by
  intro n
  induction n with
  | zero => intro l0 l4 l5 l6 l7 l8 l9 l13 M hcl hR_l0 hR_l5 hR_l6 hR_l7 h; rw [f_Mo_lay_207] at h; cases h
  | succ n ih =>
    intro l0 l4 l5 l6 l7 l8 l9 l13 M hcl hR_l0 hR_l5 hR_l6 hR_l7 h
    rw [f_Mo_lay_207] at h
    have g := zFr.rf hcl
    by_cases c34 : l9 ≤ l13
    · have h := zift h c34
      obtain rfl := z_res h
      exact g
    · have h := ziff h c34
      obtain ⟨h1, h⟩ := zif h
      obtain ⟨h2, h⟩ := zif h
      obtain ⟨v3, e4, h⟩ := zlet_ex h
      obtain ⟨h5, h⟩ := zif h
      have r2 : Rg (z_p M l0 24) := g.cl _ _ hR_l0
      obtain ⟨h6, h⟩ := zif h
      obtain ⟨h7, h⟩ := zif h
      obtain ⟨v8, e9, h⟩ := zlet_ex h
      have r3 : Rg (z_p M l0 24) := g.cl _ _ hR_l0
      obtain ⟨h10, h⟩ := zif h
      obtain ⟨h11, h⟩ := zif h
      obtain ⟨M12, e13, h⟩ := zlet_ex h
      have g := g.i r3 e13
      have h14 := k_i e13 h1
      have h15 := k_i e13 h5
      have h16 := k_i e13 h6
      obtain ⟨q17, c18, h⟩ := zbd h
      have g := g.tr (G_Mo_highest g.cl c18)
      obtain ⟨v19, e20, h⟩ := zlet_ex h
      obtain ⟨h21, h⟩ := zif h
      obtain ⟨h22, h⟩ := zif h
      obtain ⟨M23, e24, h⟩ := zlet_ex h
      have g := g.i hR_l6 e24
      have h25 := k_i e24 h21
      obtain ⟨h26, h⟩ := zif h
      obtain ⟨h27, h⟩ := zif h
      obtain ⟨M28, e29, h⟩ := zlet_ex h
      have g := g.i hR_l7 e29
      have h30 := k_i e29 h25
      have h31 := k_i e29 h26
      obtain ⟨v32, e33, h⟩ := zlet_ex h
      exact g.tr (ih l0 l4 l5 l6 l7 l8 l9 v32 M28 g.cl hR_l0 hR_l5 hR_l6 hR_l7 h)
set_option maxRecDepth 100000 in
set_option maxHeartbeats 4000000 in
theorem g_Mo_lay_197 {Rg : Nat → Prop} {O : zO} {q : Unit × zM} {k165 : Nat → Nat → Int32 → Int32 → Int32 → Nat → Nat → Nat → Int32 → Int32 → Int32 → zM → Option (Unit × zM)} (hk165 : ∀ (l0 : Nat) (l1 : Nat) (l2 : Int32) (l3 : Int32) (l4 : Int32) (l5 : Nat) (l6 : Nat) (l7 : Nat) (l8 : Int32) (l9 : Int32) (l13 : Int32) (M : zM), zCl Rg M → Rg l0 → Rg l1 → Rg l5 → Rg l6 → Rg l7 → k165 l0 l1 l2 l3 l4 l5 l6 l7 l8 l9 l13 M = some q → zFr Rg M q.2) : ∀ (n : Nat) (l0 : Nat) (l1 : Nat) (l2 : Int32) (l3 : Int32) (l4 : Int32) (l5 : Nat) (l6 : Nat) (l7 : Nat) (l8 : Int32) (l9 : Int32) (l13 : Int32) (s0 : Nat) (s1 : Int32) (s2 : Int32) (M : zM), zCl Rg M → Rg l0 → Rg l1 → Rg l5 → Rg l6 → Rg l7 → Rg s0 → f_Mo_lay_197 O k165 n l0 l1 l2 l3 l4 l5 l6 l7 l8 l9 l13 s0 s1 s2 M = some q → zFr Rg M q.2 := by
  intro n l0 l1 l2 l3 l4 l5 l6 l7 l8 l9 l13 s0 s1 s2 M hcl hR_l0 hR_l1 hR_l5 hR_l6 hR_l7 hR_s0 h
  rw [f_Mo_lay_197] at h
  have g := zFr.rf hcl
  obtain ⟨h1, h⟩ := zif h
  obtain ⟨h2, h⟩ := zif h
  obtain ⟨M3, e4, h⟩ := zlet_ex h
  have g := g.i hR_s0 e4
  have h5 := k_i e4 h1
  obtain ⟨v6, e7, h⟩ := zlet_ex h
  exact g.tr (hk165 l0 l1 l2 l3 l4 l5 l6 l7 l8 l9 v6 M3 g.cl hR_l0 hR_l1 hR_l5 hR_l6 hR_l7 h)
set_option maxRecDepth 100000 in
set_option maxHeartbeats 4000000 in
theorem g_Mo_lay_165 {Rg : Nat → Prop} {O : zO} {q : Unit × zM} : ∀ (n : Nat) (l0 : Nat) (l1 : Nat) (l2 : Int32) (l3 : Int32) (l4 : Int32) (l5 : Nat) (l6 : Nat) (l7 : Nat) (l8 : Int32) (l9 : Int32) (l13 : Int32) (M : zM), zCl Rg M → Rg l0 → Rg l1 → Rg l5 → Rg l6 → Rg l7 → f_Mo_lay_165 O n l0 l1 l2 l3 l4 l5 l6 l7 l8 l9 l13 M = some q → zFr Rg M q.2 := by
  intro n
  induction n with
  | zero => intro l0 l1 l2 l3 l4 l5 l6 l7 l8 l9 l13 M hcl hR_l0 hR_l1 hR_l5 hR_l6 hR_l7 h; rw [f_Mo_lay_165] at h; cases h
  | succ n ih =>
    intro l0 l1 l2 l3 l4 l5 l6 l7 l8 l9 l13 M hcl hR_l0 hR_l1 hR_l5 hR_l6 hR_l7 h
    rw [f_Mo_lay_165] at h
    have g := zFr.rf hcl
    by_cases c6 : l3 ≤ l13
    · have h := zift h c6
      exact g.tr (g_Mo_lay_207 n l0 l4 l5 l6 l7 l8 l9 (0 : Int32) M g.cl hR_l0 hR_l5 hR_l6 hR_l7 h)
    · have h := ziff h c6
      obtain ⟨h1, h⟩ := zif h
      have r1 : Rg (z_p M l0 24) := g.cl _ _ hR_l0
      obtain ⟨h2, h⟩ := zif h
      obtain ⟨h3, h⟩ := zif h
      by_cases c5 : (z_i M l1 (l2 + l13).toNatClampNeg) = (-1 : Int32)
      · have h := zift h c5
        exact g.tr (g_Mo_lay_197 ih n l0 l1 l2 l3 l4 l5 l6 l7 l8 l9 l13 (z_p M l0 24) l13 (1 : Int32) M g.cl hR_l0 hR_l1 hR_l5 hR_l6 hR_l7 r1 h)
      · have h := ziff h c5
        obtain ⟨h4, h⟩ := zif h
        exact g.tr (g_Mo_lay_197 ih n l0 l1 l2 l3 l4 l5 l6 l7 l8 l9 l13 (z_p M l0 24) l13 (z_i M l1 (l2 + l13).toNatClampNeg) M g.cl hR_l0 hR_l1 hR_l5 hR_l6 hR_l7 r1 h)
set_option maxRecDepth 100000 in
set_option maxHeartbeats 4000000 in
theorem g_Mo_lay_116 {Rg : Nat → Prop} {O : zO} {q : Unit × zM} {k96 : Nat → Nat → Int32 → Int32 → Int32 → Nat → Nat → Nat → Int32 → Int32 → Int32 → Int32 → Int32 → zM → Option (Unit × zM)} (hk96 : ∀ (l0 : Nat) (l1 : Nat) (l2 : Int32) (l3 : Int32) (l4 : Int32) (l5 : Nat) (l6 : Nat) (l7 : Nat) (l8 : Int32) (l9 : Int32) (l11 : Int32) (l12 : Int32) (l13 : Int32) (M : zM), zCl Rg M → Rg l0 → Rg l1 → Rg l5 → Rg l6 → Rg l7 → k96 l0 l1 l2 l3 l4 l5 l6 l7 l8 l9 l11 l12 l13 M = some q → zFr Rg M q.2) {k105 : Nat → Nat → Int32 → Int32 → Int32 → Nat → Nat → Nat → Int32 → Int32 → Int32 → Int32 → Int32 → Int32 → zM → Option (Unit × zM)} (hk105 : ∀ (l0 : Nat) (l1 : Nat) (l2 : Int32) (l3 : Int32) (l4 : Int32) (l5 : Nat) (l6 : Nat) (l7 : Nat) (l8 : Int32) (l9 : Int32) (l11 : Int32) (l12 : Int32) (l13 : Int32) (l14 : Int32) (M : zM), zCl Rg M → Rg l0 → Rg l1 → Rg l5 → Rg l6 → Rg l7 → k105 l0 l1 l2 l3 l4 l5 l6 l7 l8 l9 l11 l12 l13 l14 M = some q → zFr Rg M q.2) : ∀ (n : Nat) (l0 : Nat) (l1 : Nat) (l2 : Int32) (l3 : Int32) (l4 : Int32) (l5 : Nat) (l6 : Nat) (l7 : Nat) (l8 : Int32) (l9 : Int32) (l11 : Int32) (l12 : Int32) (l13 : Int32) (l14 : Int32) (M : zM), zCl Rg M → Rg l0 → Rg l1 → Rg l5 → Rg l6 → Rg l7 → f_Mo_lay_116 O k96 k105 n l0 l1 l2 l3 l4 l5 l6 l7 l8 l9 l11 l12 l13 l14 M = some q → zFr Rg M q.2 := by
  intro n
  induction n with
  | zero => intro l0 l1 l2 l3 l4 l5 l6 l7 l8 l9 l11 l12 l13 l14 M hcl hR_l0 hR_l1 hR_l5 hR_l6 hR_l7 h; rw [f_Mo_lay_116] at h; cases h
  | succ n ih =>
    intro l0 l1 l2 l3 l4 l5 l6 l7 l8 l9 l11 l12 l13 l14 M hcl hR_l0 hR_l1 hR_l5 hR_l6 hR_l7 h
    rw [f_Mo_lay_116] at h
    have g := zFr.rf hcl
    obtain ⟨h1, h⟩ := zif h
    obtain ⟨h2, h⟩ := zif h
    by_cases c12 : (z_i M l5 (l8 + l12).toNatClampNeg) < 0
    · have h := zift h c12
      obtain ⟨h3, h⟩ := zif h
      obtain ⟨M4, e5, h⟩ := zlet_ex h
      have g := g.i hR_l5 e5
      have h6 := k_i e5 h1
      obtain ⟨v7, e8, h⟩ := zlet_ex h
      exact g.tr (hk105 l0 l1 l2 l3 l4 l5 l6 l7 l8 l9 l11 l12 l13 v7 M4 g.cl hR_l0 hR_l1 hR_l5 hR_l6 hR_l7 h)
    · have h := ziff h c12
      obtain ⟨h9, h⟩ := zif h
      obtain ⟨v10, e11, h⟩ := zlet_ex h
      exact g.tr (ih l0 l1 l2 l3 l4 l5 l6 l7 l8 l9 l11 v10 l13 l14 M g.cl hR_l0 hR_l1 hR_l5 hR_l6 hR_l7 h)
set_option maxRecDepth 100000 in
set_option maxHeartbeats 4000000 in
theorem g_Mo_lay_105 {Rg : Nat → Prop} {O : zO} {q : Unit × zM} {k96 : Nat → Nat → Int32 → Int32 → Int32 → Nat → Nat → Nat → Int32 → Int32 → Int32 → Int32 → Int32 → zM → Option (Unit × zM)} (hk96 : ∀ (l0 : Nat) (l1 : Nat) (l2 : Int32) (l3 : Int32) (l4 : Int32) (l5 : Nat) (l6 : Nat) (l7 : Nat) (l8 : Int32) (l9 : Int32) (l11 : Int32) (l12 : Int32) (l13 : Int32) (M : zM), zCl Rg M → Rg l0 → Rg l1 → Rg l5 → Rg l6 → Rg l7 → k96 l0 l1 l2 l3 l4 l5 l6 l7 l8 l9 l11 l12 l13 M = some q → zFr Rg M q.2) : ∀ (n : Nat) (l0 : Nat) (l1 : Nat) (l2 : Int32) (l3 : Int32) (l4 : Int32) (l5 : Nat) (l6 : Nat) (l7 : Nat) (l8 : Int32) (l9 : Int32) (l11 : Int32) (l12 : Int32) (l13 : Int32) (l14 : Int32) (M : zM), zCl Rg M → Rg l0 → Rg l1 → Rg l5 → Rg l6 → Rg l7 → f_Mo_lay_105 O k96 n l0 l1 l2 l3 l4 l5 l6 l7 l8 l9 l11 l12 l13 l14 M = some q → zFr Rg M q.2 := by
  intro n
  induction n with
  | zero => intro l0 l1 l2 l3 l4 l5 l6 l7 l8 l9 l11 l12 l13 l14 M hcl hR_l0 hR_l1 hR_l5 hR_l6 hR_l7 h; rw [f_Mo_lay_105] at h; cases h
  | succ n ih =>
    intro l0 l1 l2 l3 l4 l5 l6 l7 l8 l9 l11 l12 l13 l14 M hcl hR_l0 hR_l1 hR_l5 hR_l6 hR_l7 h
    rw [f_Mo_lay_105] at h
    have g := zFr.rf hcl
    obtain ⟨h1, h⟩ := zif h
    obtain ⟨h2, h⟩ := zif h
    by_cases c5 : (z_i M l1 (l2 + l13).toNatClampNeg) ≤ l14
    · have h := zift h c5
      obtain ⟨v3, e4, h⟩ := zlet_ex h
      exact g.tr (hk96 l0 l1 l2 l3 l4 l5 l6 l7 l8 l9 l11 l12 v3 M g.cl hR_l0 hR_l1 hR_l5 hR_l6 hR_l7 h)
    · have h := ziff h c5
      exact g.tr (g_Mo_lay_116 hk96 ih n l0 l1 l2 l3 l4 l5 l6 l7 l8 l9 l11 l12 l13 l14 M g.cl hR_l0 hR_l1 hR_l5 hR_l6 hR_l7 h)
set_option maxRecDepth 100000 in
set_option maxHeartbeats 4000000 in
theorem g_Mo_lay_96 {Rg : Nat → Prop} {O : zO} {q : Unit × zM} : ∀ (n : Nat) (l0 : Nat) (l1 : Nat) (l2 : Int32) (l3 : Int32) (l4 : Int32) (l5 : Nat) (l6 : Nat) (l7 : Nat) (l8 : Int32) (l9 : Int32) (l11 : Int32) (l12 : Int32) (l13 : Int32) (M : zM), zCl Rg M → Rg l0 → Rg l1 → Rg l5 → Rg l6 → Rg l7 → f_Mo_lay_96 O n l0 l1 l2 l3 l4 l5 l6 l7 l8 l9 l11 l12 l13 M = some q → zFr Rg M q.2 := by
  intro n
  induction n with
  | zero => intro l0 l1 l2 l3 l4 l5 l6 l7 l8 l9 l11 l12 l13 M hcl hR_l0 hR_l1 hR_l5 hR_l6 hR_l7 h; rw [f_Mo_lay_96] at h; cases h
  | succ n ih =>
    intro l0 l1 l2 l3 l4 l5 l6 l7 l8 l9 l11 l12 l13 M hcl hR_l0 hR_l1 hR_l5 hR_l6 hR_l7 h
    rw [f_Mo_lay_96] at h
    have g := zFr.rf hcl
    by_cases c1 : l3 ≤ l13
    · have h := zift h c1
      exact g.tr (g_Mo_lay_165 n l0 l1 l2 l3 l4 l5 l6 l7 l8 l9 (0 : Int32) M g.cl hR_l0 hR_l1 hR_l5 hR_l6 hR_l7 h)
    · have h := ziff h c1
      exact g.tr (g_Mo_lay_105 ih n l0 l1 l2 l3 l4 l5 l6 l7 l8 l9 l11 l12 l13 (0 : Int32) M g.cl hR_l0 hR_l1 hR_l5 hR_l6 hR_l7 h)
set_option maxRecDepth 100000 in
set_option maxHeartbeats 4000000 in
theorem g_Mo_lay_70 {Rg : Nat → Prop} {O : zO} {q : Unit × zM} {k38 : Nat → Nat → Int32 → Int32 → Int32 → Nat → Nat → Nat → Int32 → Int32 → Int32 → Int32 → zM → Option (Unit × zM)} (hk38 : ∀ (l0 : Nat) (l1 : Nat) (l2 : Int32) (l3 : Int32) (l4 : Int32) (l5 : Nat) (l6 : Nat) (l7 : Nat) (l8 : Int32) (l9 : Int32) (l10 : Int32) (l11 : Int32) (M : zM), zCl Rg M → Rg l0 → Rg l1 → Rg l5 → Rg l6 → Rg l7 → k38 l0 l1 l2 l3 l4 l5 l6 l7 l8 l9 l10 l11 M = some q → zFr Rg M q.2) : ∀ (n : Nat) (l0 : Nat) (l1 : Nat) (l2 : Int32) (l3 : Int32) (l4 : Int32) (l5 : Nat) (l6 : Nat) (l7 : Nat) (l8 : Int32) (l9 : Int32) (l10 : Int32) (l11 : Int32) (M : zM), zCl Rg M → Rg l0 → Rg l1 → Rg l5 → Rg l6 → Rg l7 → f_Mo_lay_70 O k38 n l0 l1 l2 l3 l4 l5 l6 l7 l8 l9 l10 l11 M = some q → zFr Rg M q.2 := by
  intro n l0 l1 l2 l3 l4 l5 l6 l7 l8 l9 l10 l11 M hcl hR_l0 hR_l1 hR_l5 hR_l6 hR_l7 h
  rw [f_Mo_lay_70] at h
  have g := zFr.rf hcl
  obtain ⟨v1, e2, h⟩ := zlet_ex h
  exact g.tr (hk38 l0 l1 l2 l3 l4 l5 l6 l7 l8 l9 l10 v1 M g.cl hR_l0 hR_l1 hR_l5 hR_l6 hR_l7 h)
set_option maxRecDepth 100000 in
set_option maxHeartbeats 4000000 in
theorem g_Mo_lay_38 {Rg : Nat → Prop} {O : zO} {q : Unit × zM} : ∀ (n : Nat) (l0 : Nat) (l1 : Nat) (l2 : Int32) (l3 : Int32) (l4 : Int32) (l5 : Nat) (l6 : Nat) (l7 : Nat) (l8 : Int32) (l9 : Int32) (l10 : Int32) (l11 : Int32) (M : zM), zCl Rg M → Rg l0 → Rg l1 → Rg l5 → Rg l6 → Rg l7 → f_Mo_lay_38 O n l0 l1 l2 l3 l4 l5 l6 l7 l8 l9 l10 l11 M = some q → zFr Rg M q.2 := by
  intro n
  induction n with
  | zero => intro l0 l1 l2 l3 l4 l5 l6 l7 l8 l9 l10 l11 M hcl hR_l0 hR_l1 hR_l5 hR_l6 hR_l7 h; rw [f_Mo_lay_38] at h; cases h
  | succ n ih =>
    intro l0 l1 l2 l3 l4 l5 l6 l7 l8 l9 l10 l11 M hcl hR_l0 hR_l1 hR_l5 hR_l6 hR_l7 h
    rw [f_Mo_lay_38] at h
    have g := zFr.rf hcl
    by_cases c14 : l3 ≤ l11
    · have h := zift h c14
      obtain ⟨v1, e2, h⟩ := zlet_ex h
      exact g.tr (g_Mo_lay_96 n l0 l1 l2 l3 l4 l5 l6 l7 l8 l9 v1 (0 : Int32) (0 : Int32) M g.cl hR_l0 hR_l1 hR_l5 hR_l6 hR_l7 h)
    · have h := ziff h c14
      obtain ⟨h3, h⟩ := zif h
      obtain ⟨h4, h⟩ := zif h
      by_cases c13 : (z_i M l1 (l2 + l11).toNatClampNeg) = (-1 : Int32)
      · have h := zift h c13
        obtain ⟨v5, e6, h⟩ := zlet_ex h
        obtain ⟨h7, h⟩ := zif h
        obtain ⟨h8, h⟩ := zif h
        obtain ⟨M9, e10, h⟩ := zlet_ex h
        have g := g.i hR_l5 e10
        have h11 := k_i e10 h3
        have h12 := k_i e10 h7
        exact g.tr (g_Mo_lay_70 ih n l0 l1 l2 l3 l4 l5 l6 l7 l8 l9 v5 l11 M9 g.cl hR_l0 hR_l1 hR_l5 hR_l6 hR_l7 h)
      · have h := ziff h c13
        exact g.tr (g_Mo_lay_70 ih n l0 l1 l2 l3 l4 l5 l6 l7 l8 l9 l10 l11 M g.cl hR_l0 hR_l1 hR_l5 hR_l6 hR_l7 h)
set_option maxRecDepth 100000 in
set_option maxHeartbeats 4000000 in
theorem g_Mo_lay_9 {Rg : Nat → Prop} {O : zO} {q : Unit × zM} : ∀ (n : Nat) (l0 : Nat) (l1 : Nat) (l2 : Int32) (l3 : Int32) (l4 : Int32) (l5 : Nat) (l6 : Nat) (l7 : Nat) (l8 : Int32) (l9 : Int32) (l10 : Int32) (M : zM), zCl Rg M → Rg l0 → Rg l1 → Rg l5 → Rg l6 → Rg l7 → f_Mo_lay_9 O n l0 l1 l2 l3 l4 l5 l6 l7 l8 l9 l10 M = some q → zFr Rg M q.2 := by
  intro n
  induction n with
  | zero => intro l0 l1 l2 l3 l4 l5 l6 l7 l8 l9 l10 M hcl hR_l0 hR_l1 hR_l5 hR_l6 hR_l7 h; rw [f_Mo_lay_9] at h; cases h
  | succ n ih =>
    intro l0 l1 l2 l3 l4 l5 l6 l7 l8 l9 l10 M hcl hR_l0 hR_l1 hR_l5 hR_l6 hR_l7 h
    rw [f_Mo_lay_9] at h
    have g := zFr.rf hcl
    by_cases c8 : l9 ≤ l10
    · have h := zift h c8
      exact g.tr (g_Mo_lay_38 n l0 l1 l2 l3 l4 l5 l6 l7 l8 l9 l9 (0 : Int32) M g.cl hR_l0 hR_l1 hR_l5 hR_l6 hR_l7 h)
    · have h := ziff h c8
      obtain ⟨h1, h⟩ := zif h
      obtain ⟨h2, h⟩ := zif h
      obtain ⟨M3, e4, h⟩ := zlet_ex h
      have g := g.i hR_l5 e4
      have h5 := k_i e4 h1
      obtain ⟨v6, e7, h⟩ := zlet_ex h
      exact g.tr (ih l0 l1 l2 l3 l4 l5 l6 l7 l8 l9 v6 M3 g.cl hR_l0 hR_l1 hR_l5 hR_l6 hR_l7 h)
set_option maxRecDepth 100000 in
set_option maxHeartbeats 4000000 in
theorem g_Mo_lay_0 {Rg : Nat → Prop} {O : zO} {q : Unit × zM} : ∀ (n : Nat) (l0 : Nat) (l1 : Nat) (l2 : Int32) (l3 : Int32) (l4 : Int32) (l5 : Nat) (l6 : Nat) (l7 : Nat) (l8 : Int32) (M : zM), zCl Rg M → Rg l0 → Rg l1 → Rg l5 → Rg l6 → Rg l7 → f_Mo_lay_0 O n l0 l1 l2 l3 l4 l5 l6 l7 l8 M = some q → zFr Rg M q.2 := by
  intro n l0 l1 l2 l3 l4 l5 l6 l7 l8 M hcl hR_l0 hR_l1 hR_l5 hR_l6 hR_l7 h
  rw [f_Mo_lay_0] at h
  have g := zFr.rf hcl
  obtain ⟨v1, e2, h⟩ := zlet_ex h
  exact g.tr (g_Mo_lay_9 n l0 l1 l2 l3 l4 l5 l6 l7 l8 v1 (0 : Int32) M g.cl hR_l0 hR_l1 hR_l5 hR_l6 hR_l7 h)
theorem G_Mo_lay {Rg : Nat → Prop} {O : zO} {n : Nat} {l0 : Nat} {l1 : Nat} {l2 : Int32} {l3 : Int32} {l4 : Int32} {l5 : Nat} {l6 : Nat} {l7 : Nat} {l8 : Int32} {M : zM} {q : Unit × zM} (hcl : zCl Rg M) (hR_l0 : Rg l0) (hR_l1 : Rg l1) (hR_l5 : Rg l5) (hR_l6 : Rg l6) (hR_l7 : Rg l7) (h : F_Mo_lay O n l0 l1 l2 l3 l4 l5 l6 l7 l8 M = some q) : zFr Rg M q.2 := g_Mo_lay_0 n l0 l1 l2 l3 l4 l5 l6 l7 l8 M hcl hR_l0 hR_l1 hR_l5 hR_l6 hR_l7 h

set_option maxRecDepth 100000 in
set_option maxHeartbeats 4000000 in
theorem g_Mo_take_5 {Rg : Nat → Prop} {O : zO} {q : Int64 × zM} : ∀ (n : Nat) (l0 : Nat) (l1 : Int32) (l2 : Int64) (l4 : Int32) (M : zM), zCl Rg M → Rg l0 → f_Mo_take_5 O n l0 l1 l2 l4 M = some q → zFr Rg M q.2 := by
  intro n
  induction n with
  | zero => intro l0 l1 l2 l4 M hcl hR_l0 h; rw [f_Mo_take_5] at h; cases h
  | succ n ih =>
    intro l0 l1 l2 l4 M hcl hR_l0 h
    rw [f_Mo_take_5] at h
    have g := zFr.rf hcl
    by_cases c11 : l1 ≤ l4
    · have h := zift h c11
      obtain rfl := z_res h
      exact g
    · have h := ziff h c11
      obtain ⟨h1, h⟩ := zif h
      obtain ⟨M2, e3, h⟩ := zlet_ex h
      have g := g.i hR_l0 e3
      have h4 := k_i e3 h1
      obtain ⟨q5, c6, h⟩ := zbd h
      have g := g.tr (G_Mo_bit g.cl hR_l0 c6)
      obtain ⟨v7, e8, h⟩ := zlet_ex h
      obtain ⟨v9, e10, h⟩ := zlet_ex h
      exact g.tr (ih l0 l1 v7 v9 q5.2 g.cl hR_l0 h)
set_option maxRecDepth 100000 in
set_option maxHeartbeats 4000000 in
theorem g_Mo_take_0 {Rg : Nat → Prop} {O : zO} {q : Int64 × zM} : ∀ (n : Nat) (l0 : Nat) (l1 : Int32) (M : zM), zCl Rg M → Rg l0 → f_Mo_take_0 O n l0 l1 M = some q → zFr Rg M q.2 := by
  intro n l0 l1 M hcl hR_l0 h
  rw [f_Mo_take_0] at h
  have g := zFr.rf hcl
  exact g.tr (g_Mo_take_5 n l0 l1 (0 : Int64) (0 : Int32) M g.cl hR_l0 h)
theorem G_Mo_take {Rg : Nat → Prop} {O : zO} {n : Nat} {l0 : Nat} {l1 : Int32} {M : zM} {q : Int64 × zM} (hcl : zCl Rg M) (hR_l0 : Rg l0) (h : F_Mo_take O n l0 l1 M = some q) : zFr Rg M q.2 := g_Mo_take_0 n l0 l1 M hcl hR_l0 h

set_option maxRecDepth 100000 in
set_option maxHeartbeats 4000000 in
theorem g_Mo_weightsByStates_24 {Rg : Nat → Prop} {O : zO} {q : Int32 × zM} : ∀ (n : Nat) (M : zM), zCl Rg M → f_Mo_weightsByStates_24 O n M = some q → zFr Rg M q.2 := by
  intro n M hcl h
  rw [f_Mo_weightsByStates_24] at h
  have g := zFr.rf hcl
  obtain rfl := z_res h
  exact g
set_option maxRecDepth 100000 in
set_option maxHeartbeats 4000000 in
theorem g_Mo_weightsByStates_248 {Rg : Nat → Prop} {O : zO} {q : Int32 × zM} {k97 : Nat → Int32 → Int32 → Int32 → Int32 → zM → Option (Int32 × zM)} (hk97 : ∀ (l0 : Nat) (l4 : Int32) (l5 : Int32) (l6 : Int32) (l7 : Int32) (M : zM), zCl Rg M → Rg l0 → k97 l0 l4 l5 l6 l7 M = some q → zFr Rg M q.2) : ∀ (n : Nat) (l0 : Nat) (l4 : Int32) (l5 : Int32) (l6 : Int32) (s0 : Int32) (M : zM), zCl Rg M → Rg l0 → f_Mo_weightsByStates_248 O k97 n l0 l4 l5 l6 s0 M = some q → zFr Rg M q.2 := by
  intro n l0 l4 l5 l6 s0 M hcl hR_l0 h
  rw [f_Mo_weightsByStates_248] at h
  have g := zFr.rf hcl
  exact g.tr (hk97 l0 l4 l5 l6 s0 M g.cl hR_l0 h)
set_option maxRecDepth 100000 in
set_option maxHeartbeats 4000000 in
theorem g_Mo_weightsByStates_236 {Rg : Nat → Prop} {O : zO} {q : Int32 × zM} {k97 : Nat → Int32 → Int32 → Int32 → Int32 → zM → Option (Int32 × zM)} (hk97 : ∀ (l0 : Nat) (l4 : Int32) (l5 : Int32) (l6 : Int32) (l7 : Int32) (M : zM), zCl Rg M → Rg l0 → k97 l0 l4 l5 l6 l7 M = some q → zFr Rg M q.2) : ∀ (n : Nat) (l0 : Nat) (l4 : Int32) (l6 : Int32) (l7 : Int32) (s0 : Int32) (M : zM), zCl Rg M → Rg l0 → f_Mo_weightsByStates_236 O k97 n l0 l4 l6 l7 s0 M = some q → zFr Rg M q.2 := by
  intro n l0 l4 l6 l7 s0 M hcl hR_l0 h
  rw [f_Mo_weightsByStates_236] at h
  have g := zFr.rf hcl
  by_cases c1 : l7 = 0
  · have h := zift h c1
    exact g.tr (g_Mo_weightsByStates_248 hk97 n l0 l4 s0 l6 (1 : Int32) M g.cl hR_l0 h)
  · have h := ziff h c1
    exact g.tr (g_Mo_weightsByStates_248 hk97 n l0 l4 s0 l6 (0 : Int32) M g.cl hR_l0 h)
set_option maxRecDepth 100000 in
set_option maxHeartbeats 4000000 in
theorem g_Mo_weightsByStates_222 {Rg : Nat → Prop} {O : zO} {q : Int32 × zM} {k97 : Nat → Int32 → Int32 → Int32 → Int32 → zM → Option (Int32 × zM)} (hk97 : ∀ (l0 : Nat) (l4 : Int32) (l5 : Int32) (l6 : Int32) (l7 : Int32) (M : zM), zCl Rg M → Rg l0 → k97 l0 l4 l5 l6 l7 M = some q → zFr Rg M q.2) : ∀ (n : Nat) (l0 : Nat) (l5 : Int32) (l6 : Int32) (l7 : Int32) (l8 : Int32) (s0 : Int32) (M : zM), zCl Rg M → Rg l0 → f_Mo_weightsByStates_222 O k97 n l0 l5 l6 l7 l8 s0 M = some q → zFr Rg M q.2 := by
  intro n l0 l5 l6 l7 l8 s0 M hcl hR_l0 h
  rw [f_Mo_weightsByStates_222] at h
  have g := zFr.rf hcl
  by_cases c1 : l7 = 0
  · have h := zift h c1
    exact g.tr (g_Mo_weightsByStates_236 hk97 n l0 s0 l6 l7 l8 M g.cl hR_l0 h)
  · have h := ziff h c1
    exact g.tr (g_Mo_weightsByStates_236 hk97 n l0 s0 l6 l7 l5 M g.cl hR_l0 h)
set_option maxRecDepth 100000 in
set_option maxHeartbeats 4000000 in
theorem g_Mo_weightsByStates_186 {Rg : Nat → Prop} {O : zO} {q : Int32 × zM} : ∀ (n : Nat) (l6 : Int32) (s0 : Nat) (s1 : Int32) (s2 : Nat) (s3 : Int32) (M : zM), zCl Rg M → Rg s0 → Rg s2 → f_Mo_weightsByStates_186 O n l6 s0 s1 s2 s3 M = some q → zFr Rg M q.2 := by
  intro n l6 s0 s1 s2 s3 M hcl hR_s0 hR_s2 h
  rw [f_Mo_weightsByStates_186] at h
  have g := zFr.rf hcl
  obtain ⟨h1, h⟩ := zif h
  obtain ⟨h2, h⟩ := zif h
  obtain ⟨h3, h⟩ := zif h
  obtain ⟨h4, h⟩ := zif h
  obtain ⟨M5, e6, h⟩ := zlet_ex h
  have g := g.i hR_s0 e6
  have h7 := k_i e6 h1
  have h8 := k_i e6 h3
  obtain rfl := z_res h
  exact g
set_option maxRecDepth 100000 in
set_option maxHeartbeats 4000000 in
theorem g_Mo_weightsByStates_117 {Rg : Nat → Prop} {O : zO} {q : Int32 × zM} {k97 : Nat → Int32 → Int32 → Int32 → Int32 → zM → Option (Int32 × zM)} (hk97 : ∀ (l0 : Nat) (l4 : Int32) (l5 : Int32) (l6 : Int32) (l7 : Int32) (M : zM), zCl Rg M → Rg l0 → k97 l0 l4 l5 l6 l7 M = some q → zFr Rg M q.2) : ∀ (n : Nat) (l0 : Nat) (l4 : Int32) (l5 : Int32) (l6 : Int32) (l7 : Int32) (s0 : Int32) (M : zM), zCl Rg M → Rg l0 → f_Mo_weightsByStates_117 O k97 n l0 l4 l5 l6 l7 s0 M = some q → zFr Rg M q.2 := by
  intro n l0 l4 l5 l6 l7 s0 M hcl hR_l0 h
  rw [f_Mo_weightsByStates_117] at h
  have g := zFr.rf hcl
  obtain ⟨h1, h⟩ := zif h
  have r5 : Rg (z_p M l0 23) := g.cl _ _ hR_l0
  have r6 : Rg (z_p M l0 25) := g.cl _ _ hR_l0
  obtain ⟨h2, h⟩ := zif h
  obtain ⟨h3, h⟩ := zif h
  obtain ⟨h4, h⟩ := zif h
  obtain ⟨h5, h⟩ := zif h
  obtain ⟨M6, e7, h⟩ := zlet_ex h
  have g := g.i r5 e7
  have h8 := k_i e7 h1
  have h9 := k_i e7 h2
  have h10 := k_i e7 h4
  obtain ⟨v11, e12, h⟩ := zlet_ex h
  have r7 : Rg (z_p M6 l0 26) := g.cl _ _ hR_l0
  obtain ⟨h13, h⟩ := zif h
  obtain ⟨h14, h⟩ := zif h
  obtain ⟨v15, e16, h⟩ := zlet_ex h
  by_cases c26 : v15 ≤ (z_i M6 l0 48)
  · have h := zift h c26
    have r8 : Rg (z_p M6 l0 27) := g.cl _ _ hR_l0
    obtain ⟨h17, h⟩ := zif h
    obtain ⟨h18, h⟩ := zif h
    obtain ⟨q19, c20, h⟩ := zbd h
    have g := g.tr (G_Mo_take g.cl hR_l0 c20)
    obtain ⟨v21, e22, h⟩ := zlet_ex h
    by_cases c23 : l7 = 0
    · have h := zift h c23
      exact g.tr (g_Mo_weightsByStates_222 hk97 n l0 l5 v11 l7 v21 l4 q19.2 g.cl hR_l0 h)
    · have h := ziff h c23
      exact g.tr (g_Mo_weightsByStates_222 hk97 n l0 l5 v11 l7 v21 v21 q19.2 g.cl hR_l0 h)
  · have h := ziff h c26
    by_cases c25 : v11 = (255 : Int32)
    · have h := zift h c25
      obtain rfl := z_res h
      exact g
    · have h := ziff h c25
      have r9 : Rg (z_p M6 l0 23) := g.cl _ _ hR_l0
      have r10 : Rg (z_p M6 l0 25) := g.cl _ _ hR_l0
      by_cases c24 : l7 = 0
      · have h := zift h c24
        exact g.tr (g_Mo_weightsByStates_186 n v11 (z_p M6 l0 23) v11 (z_p M6 l0 25) l4 M6 g.cl r9 r10 h)
      · have h := ziff h c24
        exact g.tr (g_Mo_weightsByStates_186 n v11 (z_p M6 l0 23) v11 (z_p M6 l0 25) l5 M6 g.cl r9 r10 h)
set_option maxRecDepth 100000 in
set_option maxHeartbeats 4000000 in
theorem g_Mo_weightsByStates_97 {Rg : Nat → Prop} {O : zO} {q : Int32 × zM} : ∀ (n : Nat) (l0 : Nat) (l4 : Int32) (l5 : Int32) (l6 : Int32) (l7 : Int32) (M : zM), zCl Rg M → Rg l0 → f_Mo_weightsByStates_97 O n l0 l4 l5 l6 l7 M = some q → zFr Rg M q.2 := by
  intro n
  induction n with
  | zero => intro l0 l4 l5 l6 l7 M hcl hR_l0 h; rw [f_Mo_weightsByStates_97] at h; cases h
  | succ n ih =>
    intro l0 l4 l5 l6 l7 M hcl hR_l0 h
    rw [f_Mo_weightsByStates_97] at h
    have g := zFr.rf hcl
    by_cases c2 : (255 : Int32) ≤ l6
    · have h := zift h c2
      obtain rfl := z_res h
      exact g
    · have h := ziff h c2
      by_cases c1 : l7 = 0
      · have h := zift h c1
        exact g.tr (g_Mo_weightsByStates_117 ih n l0 l4 l5 l6 l7 l5 M g.cl hR_l0 h)
      · have h := ziff h c1
        exact g.tr (g_Mo_weightsByStates_117 ih n l0 l4 l5 l6 l7 l4 M g.cl hR_l0 h)
set_option maxRecDepth 100000 in
set_option maxHeartbeats 4000000 in
theorem g_Mo_weightsByStates_0 {Rg : Nat → Prop} {O : zO} {q : Int32 × zM} : ∀ (n : Nat) (l0 : Nat) (l1 : Int32) (l2 : Int32) (M : zM), zCl Rg M → Rg l0 → f_Mo_weightsByStates_0 O n l0 l1 l2 M = some q → zFr Rg M q.2 := by
  intro n l0 l1 l2 M hcl hR_l0 h
  rw [f_Mo_weightsByStates_0] at h
  have g := zFr.rf hcl
  obtain ⟨h1, h⟩ := zif h
  obtain ⟨q2, c3, h⟩ := zbd h
  have g := g.tr (G_Mo_share g.cl hR_l0 c3)
  by_cases c22 : q2.1 < 0
  · have h := zift h c22
    exact g.tr (g_Mo_weightsByStates_24 n q2.2 g.cl h)
  · have h := ziff h c22
    obtain ⟨h4, h⟩ := zif h
    obtain ⟨q5, c6, h⟩ := zbd h
    have g := g.tr (G_Mo_open g.cl hR_l0 c6)
    by_cases c21 : q5.1 = 0
    · have h := zift h c21
      exact g.tr (g_Mo_weightsByStates_24 n q5.2 g.cl h)
    · have h := ziff h c21
      obtain ⟨h7, h⟩ := zif h
      have r1 : Rg (z_p q5.2 l0 21) := g.cl _ _ hR_l0
      have r2 : Rg (z_p q5.2 l0 25) := g.cl _ _ hR_l0
      have r3 : Rg (z_p q5.2 l0 26) := g.cl _ _ hR_l0
      have r4 : Rg (z_p q5.2 l0 27) := g.cl _ _ hR_l0
      obtain ⟨q8, c9, h⟩ := zbd h
      have g := g.tr (G_Mo_lay g.cl hR_l0 r1 r2 r3 r4 c9)
      obtain ⟨h10, h⟩ := zif h
      by_cases c20 : ((2 : Int32) * (z_i q8.2 l0 22)) ≤ (z_i q8.2 l0 48)
      · have h := zift h c20
        obtain ⟨q11, c12, h⟩ := zbd h
        have g := g.tr (G_Mo_take g.cl hR_l0 c12)
        obtain ⟨v13, e14, h⟩ := zlet_ex h
        obtain ⟨h15, h⟩ := zif h
        obtain ⟨q16, c17, h⟩ := zbd h
        have g := g.tr (G_Mo_take g.cl hR_l0 c17)
        obtain ⟨v18, e19, h⟩ := zlet_ex h
        exact g.tr (g_Mo_weightsByStates_97 n l0 v13 v18 (0 : Int32) (1 : Int32) q16.2 g.cl hR_l0 h)
      · have h := ziff h c20
        obtain rfl := z_res h
        exact g
theorem G_Mo_weightsByStates {Rg : Nat → Prop} {O : zO} {n : Nat} {l0 : Nat} {l1 : Int32} {l2 : Int32} {M : zM} {q : Int32 × zM} (hcl : zCl Rg M) (hR_l0 : Rg l0) (h : F_Mo_weightsByStates O n l0 l1 l2 M = some q) : zFr Rg M q.2 := g_Mo_weightsByStates_0 n l0 l1 l2 M hcl hR_l0 h

set_option maxRecDepth 100000 in
set_option maxHeartbeats 4000000 in
theorem g_Mo_isPower_19 {Rg : Nat → Prop} {O : zO} {q : Int32 × zM} : ∀ (n : Nat) (s0 : Int32) (M : zM), zCl Rg M → f_Mo_isPower_19 O n s0 M = some q → zFr Rg M q.2 := by
  intro n s0 M hcl h
  rw [f_Mo_isPower_19] at h
  have g := zFr.rf hcl
  obtain ⟨h1, h⟩ := zif h
  obtain rfl := z_res h
  exact g
set_option maxRecDepth 100000 in
set_option maxHeartbeats 4000000 in
theorem g_Mo_isPower_18 {Rg : Nat → Prop} {O : zO} {q : Int32 × zM} : ∀ (n : Nat) (M : zM), zCl Rg M → f_Mo_isPower_18 O n M = some q → zFr Rg M q.2 := by
  intro n M hcl h
  rw [f_Mo_isPower_18] at h
  have g := zFr.rf hcl
  exact g.tr (g_Mo_isPower_19 n (0 : Int32) M g.cl h)
set_option maxRecDepth 100000 in
set_option maxHeartbeats 4000000 in
theorem g_Mo_isPower_0 {Rg : Nat → Prop} {O : zO} {q : Int32 × zM} : ∀ (n : Nat) (l0 : Nat) (l1 : Int32) (M : zM), zCl Rg M → Rg l0 → f_Mo_isPower_0 O n l0 l1 M = some q → zFr Rg M q.2 := by
  intro n l0 l1 M hcl hR_l0 h
  rw [f_Mo_isPower_0] at h
  have g := zFr.rf hcl
  by_cases c4 : l1 ≤ 0
  · have h := zift h c4
    exact g.tr (g_Mo_isPower_18 n M g.cl h)
  · have h := ziff h c4
    obtain ⟨q1, c2, h⟩ := zbd h
    have g := g.tr (G_Mo_highest g.cl c2)
    by_cases c3 : ((1 : Int32) <<< (q1.1 &&& 31)) = l1
    · have h := zift h c3
      exact g.tr (g_Mo_isPower_19 n (1 : Int32) q1.2 g.cl h)
    · have h := ziff h c3
      exact g.tr (g_Mo_isPower_18 n q1.2 g.cl h)
theorem G_Mo_isPower {Rg : Nat → Prop} {O : zO} {n : Nat} {l0 : Nat} {l1 : Int32} {M : zM} {q : Int32 × zM} (hcl : zCl Rg M) (hR_l0 : Rg l0) (h : F_Mo_isPower O n l0 l1 M = some q) : zFr Rg M q.2 := g_Mo_isPower_0 n l0 l1 M hcl hR_l0 h

set_option maxRecDepth 100000 in
set_option maxHeartbeats 4000000 in
theorem g_Mo_layCells_79 {Rg : Nat → Prop} {O : zO} {q : Unit × zM} {k4 : Nat → Int32 → Int32 → zM → Option (Unit × zM)} (hk4 : ∀ (l0 : Nat) (l1 : Int32) (l2 : Int32) (M : zM), zCl Rg M → Rg l0 → k4 l0 l1 l2 M = some q → zFr Rg M q.2) {k14 : Nat → Int32 → Int32 → Int32 → zM → Option (Unit × zM)} (hk14 : ∀ (l0 : Nat) (l1 : Int32) (l2 : Int32) (l3 : Int32) (M : zM), zCl Rg M → Rg l0 → k14 l0 l1 l2 l3 M = some q → zFr Rg M q.2) : ∀ (n : Nat) (l0 : Nat) (l1 : Int32) (l2 : Int32) (l3 : Int32) (M : zM), zCl Rg M → Rg l0 → f_Mo_layCells_79 O k4 k14 n l0 l1 l2 l3 M = some q → zFr Rg M q.2 := by
  intro n l0 l1 l2 l3 M hcl hR_l0 h
  rw [f_Mo_layCells_79] at h
  have g := zFr.rf hcl
  obtain ⟨v1, e2, h⟩ := zlet_ex h
  exact g.tr (hk14 l0 l1 l2 v1 M g.cl hR_l0 h)
set_option maxRecDepth 100000 in
set_option maxHeartbeats 4000000 in
theorem g_Mo_layCells_53 {Rg : Nat → Prop} {O : zO} {q : Unit × zM} {k4 : Nat → Int32 → Int32 → zM → Option (Unit × zM)} (hk4 : ∀ (l0 : Nat) (l1 : Int32) (l2 : Int32) (M : zM), zCl Rg M → Rg l0 → k4 l0 l1 l2 M = some q → zFr Rg M q.2) {k14 : Nat → Int32 → Int32 → Int32 → zM → Option (Unit × zM)} (hk14 : ∀ (l0 : Nat) (l1 : Int32) (l2 : Int32) (l3 : Int32) (M : zM), zCl Rg M → Rg l0 → k14 l0 l1 l2 l3 M = some q → zFr Rg M q.2) : ∀ (n : Nat) (l0 : Nat) (l1 : Int32) (l2 : Int32) (l3 : Int32) (l4 : Int32) (M : zM), zCl Rg M → Rg l0 → f_Mo_layCells_53 O k4 k14 n l0 l1 l2 l3 l4 M = some q → zFr Rg M q.2 := by
  intro n
  induction n with
  | zero => intro l0 l1 l2 l3 l4 M hcl hR_l0 h; rw [f_Mo_layCells_53] at h; cases h
  | succ n ih =>
    intro l0 l1 l2 l3 l4 M hcl hR_l0 h
    rw [f_Mo_layCells_53] at h
    have g := zFr.rf hcl
    by_cases c12 : ((1 : Int32) <<< ((l2 - (1 : Int32)) &&& 31)) ≤ l4
    · have h := zift h c12
      exact g.tr (g_Mo_layCells_79 hk4 hk14 n l0 l1 l2 l3 M g.cl hR_l0 h)
    · have h := ziff h c12
      obtain ⟨h1, h⟩ := zif h
      have r3 : Rg (z_p M l0 14) := g.cl _ _ hR_l0
      obtain ⟨h2, h⟩ := zif h
      obtain ⟨h3, h⟩ := zif h
      obtain ⟨M4, e5, h⟩ := zlet_ex h
      have g := g.i r3 e5
      have h6 := k_i e5 h1
      have h7 := k_i e5 h2
      obtain ⟨v8, e9, h⟩ := zlet_ex h
      obtain ⟨v10, e11, h⟩ := zlet_ex h
      exact g.tr (ih l0 v8 l2 l3 v10 M4 g.cl hR_l0 h)
set_option maxRecDepth 100000 in
set_option maxHeartbeats 4000000 in
theorem g_Mo_layCells_14 {Rg : Nat → Prop} {O : zO} {q : Unit × zM} {k4 : Nat → Int32 → Int32 → zM → Option (Unit × zM)} (hk4 : ∀ (l0 : Nat) (l1 : Int32) (l2 : Int32) (M : zM), zCl Rg M → Rg l0 → k4 l0 l1 l2 M = some q → zFr Rg M q.2) : ∀ (n : Nat) (l0 : Nat) (l1 : Int32) (l2 : Int32) (l3 : Int32) (M : zM), zCl Rg M → Rg l0 → f_Mo_layCells_14 O k4 n l0 l1 l2 l3 M = some q → zFr Rg M q.2 := by
  intro n
  induction n with
  | zero => intro l0 l1 l2 l3 M hcl hR_l0 h; rw [f_Mo_layCells_14] at h; cases h
  | succ n ih =>
    intro l0 l1 l2 l3 M hcl hR_l0 h
    rw [f_Mo_layCells_14] at h
    have g := zFr.rf hcl
    by_cases c9 : (256 : Int32) ≤ l3
    · have h := zift h c9
      obtain ⟨v1, e2, h⟩ := zlet_ex h
      exact g.tr (hk4 l0 l1 v1 M g.cl hR_l0 h)
    · have h := ziff h c9
      obtain ⟨h3, h⟩ := zif h
      have r1 : Rg (z_p M l0 12) := g.cl _ _ hR_l0
      obtain ⟨h4, h⟩ := zif h
      obtain ⟨h5, h⟩ := zif h
      by_cases c8 : (z_i M (z_p M l0 12) l3.toNatClampNeg) = 0
      · have h := zift h c8
        exact g.tr (g_Mo_layCells_79 hk4 ih n l0 l1 l2 l3 M g.cl hR_l0 h)
      · have h := ziff h c8
        have r2 : Rg (z_p M l0 12) := g.cl _ _ hR_l0
        obtain ⟨h6, h⟩ := zif h
        by_cases c7 : (((z_i M l0 13) + (1 : Int32)) - (z_i M (z_p M l0 12) l3.toNatClampNeg)) = l2
        · have h := zift h c7
          exact g.tr (g_Mo_layCells_53 hk4 ih n l0 l1 l2 l3 (0 : Int32) M g.cl hR_l0 h)
        · have h := ziff h c7
          exact g.tr (g_Mo_layCells_79 hk4 ih n l0 l1 l2 l3 M g.cl hR_l0 h)
set_option maxRecDepth 100000 in
set_option maxHeartbeats 4000000 in
theorem g_Mo_layCells_4 {Rg : Nat → Prop} {O : zO} {q : Unit × zM} : ∀ (n : Nat) (l0 : Nat) (l1 : Int32) (l2 : Int32) (M : zM), zCl Rg M → Rg l0 → f_Mo_layCells_4 O n l0 l1 l2 M = some q → zFr Rg M q.2 := by
  intro n
  induction n with
  | zero => intro l0 l1 l2 M hcl hR_l0 h; rw [f_Mo_layCells_4] at h; cases h
  | succ n ih =>
    intro l0 l1 l2 M hcl hR_l0 h
    rw [f_Mo_layCells_4] at h
    have g := zFr.rf hcl
    obtain ⟨h1, h⟩ := zif h
    by_cases c2 : (z_i M l0 13) < l2
    · have h := zift h c2
      obtain rfl := z_res h
      exact g
    · have h := ziff h c2
      exact g.tr (g_Mo_layCells_14 ih n l0 l1 l2 (0 : Int32) M g.cl hR_l0 h)
set_option maxRecDepth 100000 in
set_option maxHeartbeats 4000000 in
theorem g_Mo_layCells_0 {Rg : Nat → Prop} {O : zO} {q : Unit × zM} : ∀ (n : Nat) (l0 : Nat) (M : zM), zCl Rg M → Rg l0 → f_Mo_layCells_0 O n l0 M = some q → zFr Rg M q.2 := by
  intro n l0 M hcl hR_l0 h
  rw [f_Mo_layCells_0] at h
  have g := zFr.rf hcl
  exact g.tr (g_Mo_layCells_4 n l0 (0 : Int32) (1 : Int32) M g.cl hR_l0 h)
theorem G_Mo_layCells {Rg : Nat → Prop} {O : zO} {n : Nat} {l0 : Nat} {M : zM} {q : Unit × zM} (hcl : zCl Rg M) (hR_l0 : Rg l0) (h : F_Mo_layCells O n l0 M = some q) : zFr Rg M q.2 := g_Mo_layCells_0 n l0 M hcl hR_l0 h

set_option maxRecDepth 100000 in
set_option maxHeartbeats 4000000 in
theorem g_Mo_describe_257 {Rg : Nat → Prop} {O : zO} {q : Int32 × zM} : ∀ (n : Nat) (M : zM), zCl Rg M → f_Mo_describe_257 O n M = some q → zFr Rg M q.2 := by
  intro n M hcl h
  rw [f_Mo_describe_257] at h
  have g := zFr.rf hcl
  obtain rfl := z_res h
  exact g
set_option maxRecDepth 100000 in
set_option maxHeartbeats 4000000 in
theorem g_Mo_describe_358 {Rg : Nat → Prop} {O : zO} {q : Int32 × zM} {k311 : Nat → Int32 → Int32 → Int32 → Int32 → zM → Option (Int32 × zM)} (hk311 : ∀ (l0 : Nat) (l4 : Int32) (l5 : Int32) (l8 : Int32) (l10 : Int32) (M : zM), zCl Rg M → Rg l0 → k311 l0 l4 l5 l8 l10 M = some q → zFr Rg M q.2) : ∀ (n : Nat) (l0 : Nat) (l4 : Int32) (l5 : Int32) (l8 : Int32) (l10 : Int32) (s0 : Nat) (s1 : Int32) (s2 : Int32) (M : zM), zCl Rg M → Rg l0 → Rg s0 → f_Mo_describe_358 O k311 n l0 l4 l5 l8 l10 s0 s1 s2 M = some q → zFr Rg M q.2 := by
  intro n l0 l4 l5 l8 l10 s0 s1 s2 M hcl hR_l0 hR_s0 h
  rw [f_Mo_describe_358] at h
  have g := zFr.rf hcl
  obtain ⟨h1, h⟩ := zif h
  obtain ⟨h2, h⟩ := zif h
  obtain ⟨M3, e4, h⟩ := zlet_ex h
  have g := g.i hR_s0 e4
  have h5 := k_i e4 h1
  obtain ⟨v6, e7, h⟩ := zlet_ex h
  exact g.tr (hk311 l0 l4 l5 l8 v6 M3 g.cl hR_l0 h)
set_option maxRecDepth 100000 in
set_option maxHeartbeats 4000000 in
theorem g_Mo_describe_357 {Rg : Nat → Prop} {O : zO} {q : Int32 × zM} {k311 : Nat → Int32 → Int32 → Int32 → Int32 → zM → Option (Int32 × zM)} (hk311 : ∀ (l0 : Nat) (l4 : Int32) (l5 : Int32) (l8 : Int32) (l10 : Int32) (M : zM), zCl Rg M → Rg l0 → k311 l0 l4 l5 l8 l10 M = some q → zFr Rg M q.2) : ∀ (n : Nat) (l0 : Nat) (l4 : Int32) (l5 : Int32) (l8 : Int32) (l10 : Int32) (s0 : Nat) (s1 : Int32) (M : zM), zCl Rg M → Rg l0 → Rg s0 → f_Mo_describe_357 O k311 n l0 l4 l5 l8 l10 s0 s1 M = some q → zFr Rg M q.2 := by
  intro n l0 l4 l5 l8 l10 s0 s1 M hcl hR_l0 hR_s0 h
  rw [f_Mo_describe_357] at h
  have g := zFr.rf hcl
  exact g.tr (g_Mo_describe_358 hk311 n l0 l4 l5 l8 l10 s0 s1 (0 : Int32) M g.cl hR_l0 hR_s0 h)
set_option maxRecDepth 100000 in
set_option maxHeartbeats 4000000 in
theorem g_Mo_describe_311 {Rg : Nat → Prop} {O : zO} {q : Int32 × zM} : ∀ (n : Nat) (l0 : Nat) (l4 : Int32) (l5 : Int32) (l8 : Int32) (l10 : Int32) (M : zM), zCl Rg M → Rg l0 → f_Mo_describe_311 O n l0 l4 l5 l8 l10 M = some q → zFr Rg M q.2 := by
  intro n
  induction n with
  | zero => intro l0 l4 l5 l8 l10 M hcl hR_l0 h; rw [f_Mo_describe_311] at h; cases h
  | succ n ih =>
    intro l0 l4 l5 l8 l10 M hcl hR_l0 h
    rw [f_Mo_describe_311] at h
    have g := zFr.rf hcl
    by_cases c10 : (256 : Int32) ≤ l10
    · have h := zift h c10
      obtain ⟨h1, h⟩ := zif h
      obtain ⟨q2, c3, h⟩ := zbd h
      have g := g.tr (G_Mo_layCells g.cl hR_l0 c3)
      obtain rfl := z_res h
      exact g
    · have h := ziff h c10
      obtain ⟨h4, h⟩ := zif h
      have r10 : Rg (z_p M l0 12) := g.cl _ _ hR_l0
      by_cases c9 : l5 < l10
      · have h := zift h c9
        exact g.tr (g_Mo_describe_357 ih n l0 l4 l5 l8 l10 (z_p M l0 12) l10 M g.cl hR_l0 r10 h)
      · have h := ziff h c9
        have r11 : Rg (z_p M l0 23) := g.cl _ _ hR_l0
        obtain ⟨h5, h⟩ := zif h
        obtain ⟨h6, h⟩ := zif h
        by_cases c8 : (z_i M (z_p M l0 23) l10.toNatClampNeg) ≤ 0
        · have h := zift h c8
          exact g.tr (g_Mo_describe_357 ih n l0 l4 l5 l8 l10 (z_p M l0 12) l10 M g.cl hR_l0 r10 h)
        · have h := ziff h c8
          have r12 : Rg (z_p M l0 23) := g.cl _ _ hR_l0
          obtain ⟨h7, h⟩ := zif h
          exact g.tr (g_Mo_describe_358 ih n l0 l4 l5 l8 l10 (z_p M l0 12) l10 ((l8 + (1 : Int32)) - (z_i M (z_p M l0 23) l10.toNatClampNeg)) M g.cl hR_l0 r10 h)
set_option maxRecDepth 100000 in
set_option maxHeartbeats 4000000 in
theorem g_Mo_describe_291 {Rg : Nat → Prop} {O : zO} {q : Int32 × zM} : ∀ (n : Nat) (l0 : Nat) (l4 : Int32) (l5 : Int32) (l8 : Int32) (s0 : Int32) (s1 : Int32) (M : zM), zCl Rg M → Rg l0 → f_Mo_describe_291 O n l0 l4 l5 l8 s0 s1 M = some q → zFr Rg M q.2 := by
  intro n l0 l4 l5 l8 s0 s1 M hcl hR_l0 h
  rw [f_Mo_describe_291] at h
  have g := zFr.rf hcl
  obtain ⟨v1, e2, h⟩ := zlet_ex h
  by_cases c7 : (2 : Int32) ≤ v1
  · have h := zift h c7
    obtain ⟨h3, h⟩ := zif h
    obtain ⟨M4, e5, h⟩ := zlet_ex h
    have g := g.i hR_l0 e5
    have h6 := k_i e5 h3
    exact g.tr (g_Mo_describe_311 n l0 l4 l5 l8 (0 : Int32) M4 g.cl hR_l0 h)
  · have h := ziff h c7
    obtain rfl := z_res h
    exact g
set_option maxRecDepth 100000 in
set_option maxHeartbeats 4000000 in
theorem g_Mo_describe_207 {Rg : Nat → Prop} {O : zO} {q : Int32 × zM} {k152 : Nat → Int32 → Int32 → Int32 → Int32 → Int32 → zM → Option (Int32 × zM)} (hk152 : ∀ (l0 : Nat) (l4 : Int32) (l5 : Int32) (l6 : Int32) (l7 : Int32) (l8 : Int32) (M : zM), zCl Rg M → Rg l0 → k152 l0 l4 l5 l6 l7 l8 M = some q → zFr Rg M q.2) : ∀ (n : Nat) (l0 : Nat) (l4 : Int32) (l5 : Int32) (l6 : Int32) (l8 : Int32) (s0 : Int32) (s1 : Int32) (M : zM), zCl Rg M → Rg l0 → f_Mo_describe_207 O k152 n l0 l4 l5 l6 l8 s0 s1 M = some q → zFr Rg M q.2 := by
  intro n l0 l4 l5 l6 l8 s0 s1 M hcl hR_l0 h
  rw [f_Mo_describe_207] at h
  have g := zFr.rf hcl
  obtain ⟨v1, e2, h⟩ := zlet_ex h
  obtain ⟨v3, e4, h⟩ := zlet_ex h
  exact g.tr (hk152 l0 l4 l5 l6 v1 v3 M g.cl hR_l0 h)
set_option maxRecDepth 100000 in
set_option maxHeartbeats 4000000 in
theorem g_Mo_describe_186 {Rg : Nat → Prop} {O : zO} {q : Int32 × zM} {k152 : Nat → Int32 → Int32 → Int32 → Int32 → Int32 → zM → Option (Int32 × zM)} (hk152 : ∀ (l0 : Nat) (l4 : Int32) (l5 : Int32) (l6 : Int32) (l7 : Int32) (l8 : Int32) (M : zM), zCl Rg M → Rg l0 → k152 l0 l4 l5 l6 l7 l8 M = some q → zFr Rg M q.2) : ∀ (n : Nat) (l0 : Nat) (l4 : Int32) (l5 : Int32) (l7 : Int32) (l8 : Int32) (s0 : Int32) (s1 : Int32) (M : zM), zCl Rg M → Rg l0 → f_Mo_describe_186 O k152 n l0 l4 l5 l7 l8 s0 s1 M = some q → zFr Rg M q.2 := by
  intro n l0 l4 l5 l7 l8 s0 s1 M hcl hR_l0 h
  rw [f_Mo_describe_186] at h
  have g := zFr.rf hcl
  obtain ⟨v1, e2, h⟩ := zlet_ex h
  obtain ⟨h3, h⟩ := zif h
  have r9 : Rg (z_p M l0 23) := g.cl _ _ hR_l0
  obtain ⟨h4, h⟩ := zif h
  obtain ⟨h5, h⟩ := zif h
  by_cases c6 : (z_i M (z_p M l0 23) l8.toNatClampNeg) = (1 : Int32)
  · have h := zift h c6
    exact g.tr (g_Mo_describe_207 hk152 n l0 l4 l5 v1 l8 l7 (1 : Int32) M g.cl hR_l0 h)
  · have h := ziff h c6
    exact g.tr (g_Mo_describe_207 hk152 n l0 l4 l5 v1 l8 l7 (0 : Int32) M g.cl hR_l0 h)
set_option maxRecDepth 100000 in
set_option maxHeartbeats 4000000 in
theorem g_Mo_describe_152 {Rg : Nat → Prop} {O : zO} {q : Int32 × zM} : ∀ (n : Nat) (l0 : Nat) (l4 : Int32) (l5 : Int32) (l6 : Int32) (l7 : Int32) (l8 : Int32) (M : zM), zCl Rg M → Rg l0 → f_Mo_describe_152 O n l0 l4 l5 l6 l7 l8 M = some q → zFr Rg M q.2 := by
  intro n
  induction n with
  | zero => intro l0 l4 l5 l6 l7 l8 M hcl hR_l0 h; rw [f_Mo_describe_152] at h; cases h
  | succ n ih =>
    intro l0 l4 l5 l6 l7 l8 M hcl hR_l0 h
    rw [f_Mo_describe_152] at h
    have g := zFr.rf hcl
    by_cases c30 : l5 ≤ l8
    · have h := zift h c30
      by_cases c24 : l6 = 0
      · have h := zift h c24
        obtain rfl := z_res h
        exact g
      · have h := ziff h c24
        obtain ⟨q1, c2, h⟩ := zbd h
        have g := g.tr (G_Mo_highest g.cl c2)
        obtain ⟨v3, e4, h⟩ := zlet_ex h
        obtain ⟨v5, e6, h⟩ := zlet_ex h
        by_cases c23 : (11 : Int32) < v3
        · have h := zift h c23
          exact g.tr (g_Mo_describe_257 n q1.2 g.cl h)
        · have h := ziff h c23
          obtain ⟨h7, h⟩ := zif h
          obtain ⟨q8, c9, h⟩ := zbd h
          have g := g.tr (G_Mo_isPower g.cl hR_l0 c9)
          by_cases c22 : q8.1 = 0
          · have h := zift h c22
            exact g.tr (g_Mo_describe_257 n q8.2 g.cl h)
          · have h := ziff h c22
            obtain ⟨h10, h⟩ := zif h
            have r5 : Rg (z_p q8.2 l0 23) := g.cl _ _ hR_l0
            obtain ⟨q11, c12, h⟩ := zbd h
            have g := g.tr (G_Mo_highest g.cl c12)
            obtain ⟨h13, h⟩ := zif h
            obtain ⟨h14, h⟩ := zif h
            obtain ⟨M15, e16, h⟩ := zlet_ex h
            have g := g.i r5 e16
            have h17 := k_i e16 h13
            obtain ⟨h18, h⟩ := zif h
            have r6 : Rg (z_p M15 l0 23) := g.cl _ _ hR_l0
            obtain ⟨h19, h⟩ := zif h
            obtain ⟨h20, h⟩ := zif h
            by_cases c21 : (z_i M15 (z_p M15 l0 23) l5.toNatClampNeg) = (1 : Int32)
            · have h := zift h c21
              exact g.tr (g_Mo_describe_291 n l0 l4 l5 v3 l7 (1 : Int32) M15 g.cl hR_l0 h)
            · have h := ziff h c21
              exact g.tr (g_Mo_describe_291 n l0 l4 l5 v3 l7 (0 : Int32) M15 g.cl hR_l0 h)
    · have h := ziff h c30
      obtain ⟨h25, h⟩ := zif h
      have r7 : Rg (z_p M l0 23) := g.cl _ _ hR_l0
      obtain ⟨h26, h⟩ := zif h
      obtain ⟨h27, h⟩ := zif h
      by_cases c29 : (z_i M (z_p M l0 23) l8.toNatClampNeg) ≤ 0
      · have h := zift h c29
        exact g.tr (g_Mo_describe_186 ih n l0 l4 l5 l7 l8 l6 (0 : Int32) M g.cl hR_l0 h)
      · have h := ziff h c29
        have r8 : Rg (z_p M l0 23) := g.cl _ _ hR_l0
        obtain ⟨h28, h⟩ := zif h
        exact g.tr (g_Mo_describe_186 ih n l0 l4 l5 l7 l8 l6 ((1 : Int32) <<< (((z_i M (z_p M l0 23) l8.toNatClampNeg) - (1 : Int32)) &&& 31)) M g.cl hR_l0 h)
set_option maxRecDepth 100000 in
set_option maxHeartbeats 4000000 in
theorem g_Mo_describe_136 {Rg : Nat → Prop} {O : zO} {q : Int32 × zM} : ∀ (n : Nat) (l0 : Nat) (l4 : Int32) (l5 : Int32) (M : zM), zCl Rg M → Rg l0 → f_Mo_describe_136 O n l0 l4 l5 M = some q → zFr Rg M q.2 := by
  intro n l0 l4 l5 M hcl hR_l0 h
  rw [f_Mo_describe_136] at h
  have g := zFr.rf hcl
  by_cases c1 : 0 ≤ l5
  · have h := zift h c1
    exact g.tr (g_Mo_describe_152 n l0 l4 l5 (0 : Int32) (0 : Int32) (0 : Int32) M g.cl hR_l0 h)
  · have h := ziff h c1
    obtain rfl := z_res h
    exact g
set_option maxRecDepth 100000 in
set_option maxHeartbeats 4000000 in
theorem g_Mo_describe_115 {Rg : Nat → Prop} {O : zO} {q : Int32 × zM} {k61 : Nat → Int32 → Int32 → Int32 → Int32 → zM → Option (Int32 × zM)} (hk61 : ∀ (l0 : Nat) (l1 : Int32) (l4 : Int32) (l5 : Int32) (l6 : Int32) (M : zM), zCl Rg M → Rg l0 → k61 l0 l1 l4 l5 l6 M = some q → zFr Rg M q.2) : ∀ (n : Nat) (l0 : Nat) (l1 : Int32) (l4 : Int32) (l5 : Int32) (l6 : Int32) (s0 : Nat) (s1 : Int32) (s2 : Int32) (M : zM), zCl Rg M → Rg l0 → Rg s0 → f_Mo_describe_115 O k61 n l0 l1 l4 l5 l6 s0 s1 s2 M = some q → zFr Rg M q.2 := by
  intro n l0 l1 l4 l5 l6 s0 s1 s2 M hcl hR_l0 hR_s0 h
  rw [f_Mo_describe_115] at h
  have g := zFr.rf hcl
  obtain ⟨h1, h⟩ := zif h
  obtain ⟨h2, h⟩ := zif h
  obtain ⟨M3, e4, h⟩ := zlet_ex h
  have g := g.i hR_s0 e4
  have h5 := k_i e4 h1
  obtain ⟨v6, e7, h⟩ := zlet_ex h
  exact g.tr (hk61 l0 l1 l4 l5 v6 M3 g.cl hR_l0 h)
set_option maxRecDepth 100000 in
set_option maxHeartbeats 4000000 in
theorem g_Mo_describe_61 {Rg : Nat → Prop} {O : zO} {q : Int32 × zM} : ∀ (n : Nat) (l0 : Nat) (l1 : Int32) (l4 : Int32) (l5 : Int32) (l6 : Int32) (M : zM), zCl Rg M → Rg l0 → f_Mo_describe_61 O n l0 l1 l4 l5 l6 M = some q → zFr Rg M q.2 := by
  intro n
  induction n with
  | zero => intro l0 l1 l4 l5 l6 M hcl hR_l0 h; rw [f_Mo_describe_61] at h; cases h
  | succ n ih =>
    intro l0 l1 l4 l5 l6 M hcl hR_l0 h
    rw [f_Mo_describe_61] at h
    have g := zFr.rf hcl
    by_cases c7 : l5 ≤ l6
    · have h := zift h c7
      exact g.tr (g_Mo_describe_136 n l0 l4 l5 M g.cl hR_l0 h)
    · have h := ziff h c7
      obtain ⟨h1, h⟩ := zif h
      have r2 : Rg (z_p M l0 23) := g.cl _ _ hR_l0
      by_cases c6 : (l6 - l6 / (2 : Int32) * (2 : Int32)) = 0
      · have h := zift h c6
        have r4 : Rg (z_p M l0 0) := g.cl _ _ hR_l0
        obtain ⟨h4, h⟩ := zif h
        obtain ⟨h5, h⟩ := zif h
        exact g.tr (g_Mo_describe_115 ih n l0 l1 l4 l5 l6 (z_p M l0 23) l6 ((z_i M (z_p M l0 0) ((l1 + (1 : Int32)) + (l6 / (2 : Int32))).toNatClampNeg) >>> ((4 : Int32) &&& 31)) M g.cl hR_l0 r2 h)
      · have h := ziff h c6
        have r3 : Rg (z_p M l0 0) := g.cl _ _ hR_l0
        obtain ⟨h2, h⟩ := zif h
        obtain ⟨h3, h⟩ := zif h
        exact g.tr (g_Mo_describe_115 ih n l0 l1 l4 l5 l6 (z_p M l0 23) l6 ((z_i M (z_p M l0 0) ((l1 + (1 : Int32)) + (l6 / (2 : Int32))).toNatClampNeg) &&& (15 : Int32)) M g.cl hR_l0 r2 h)
set_option maxRecDepth 100000 in
set_option maxHeartbeats 4000000 in
theorem g_Mo_describe_35 {Rg : Nat → Prop} {O : zO} {q : Int32 × zM} : ∀ (n : Nat) (l0 : Nat) (l1 : Int32) (l2 : Int32) (l3 : Int32) (s0 : Int32) (s1 : Int32) (M : zM), zCl Rg M → Rg l0 → f_Mo_describe_35 O n l0 l1 l2 l3 s0 s1 M = some q → zFr Rg M q.2 := by
  intro n l0 l1 l2 l3 s0 s1 M hcl hR_l0 h
  rw [f_Mo_describe_35] at h
  have g := zFr.rf hcl
  obtain ⟨v1, e2, h⟩ := zlet_ex h
  by_cases c9 : v1 ≤ l2
  · have h := zift h c9
    obtain ⟨v3, e4, h⟩ := zlet_ex h
    by_cases c8 : l3 ≤ (127 : Int32)
    · have h := zift h c8
      obtain ⟨h5, h⟩ := zif h
      obtain ⟨q6, c7, h⟩ := zbd h
      have g := g.tr (G_Mo_weightsByStates g.cl hR_l0 c7)
      exact g.tr (g_Mo_describe_136 n l0 v1 q6.1 q6.2 g.cl hR_l0 h)
    · have h := ziff h c8
      exact g.tr (g_Mo_describe_61 n l0 l1 v1 v3 (0 : Int32) M g.cl hR_l0 h)
  · have h := ziff h c9
    obtain rfl := z_res h
    exact g
set_option maxRecDepth 100000 in
set_option maxHeartbeats 4000000 in
theorem g_Mo_describe_0 {Rg : Nat → Prop} {O : zO} {q : Int32 × zM} : ∀ (n : Nat) (l0 : Nat) (l1 : Int32) (l2 : Int32) (M : zM), zCl Rg M → Rg l0 → f_Mo_describe_0 O n l0 l1 l2 M = some q → zFr Rg M q.2 := by
  intro n l0 l1 l2 M hcl hR_l0 h
  rw [f_Mo_describe_0] at h
  have g := zFr.rf hcl
  by_cases c7 : l1 < l2
  · have h := zift h c7
    obtain ⟨h1, h⟩ := zif h
    have r1 : Rg (z_p M l0 0) := g.cl _ _ hR_l0
    obtain ⟨h2, h⟩ := zif h
    obtain ⟨h3, h⟩ := zif h
    obtain ⟨v4, e5, h⟩ := zlet_ex h
    by_cases c6 : v4 ≤ (127 : Int32)
    · have h := zift h c6
      exact g.tr (g_Mo_describe_35 n l0 l1 l2 v4 (l1 + (1 : Int32)) v4 M g.cl hR_l0 h)
    · have h := ziff h c6
      exact g.tr (g_Mo_describe_35 n l0 l1 l2 v4 (l1 + (1 : Int32)) (((v4 - (127 : Int32)) + (1 : Int32)) / (2 : Int32)) M g.cl hR_l0 h)
  · have h := ziff h c7
    obtain rfl := z_res h
    exact g
theorem G_Mo_describe {Rg : Nat → Prop} {O : zO} {n : Nat} {l0 : Nat} {l1 : Int32} {l2 : Int32} {M : zM} {q : Int32 × zM} (hcl : zCl Rg M) (hR_l0 : Rg l0) (h : F_Mo_describe O n l0 l1 l2 M = some q) : zFr Rg M q.2 := g_Mo_describe_0 n l0 l1 l2 M hcl hR_l0 h

set_option maxRecDepth 100000 in
set_option maxHeartbeats 4000000 in
theorem g_Mo_lastOf_21 {Rg : Nat → Prop} {O : zO} {q : Int32 × zM} : ∀ (n : Nat) (s0 : Int32) (M : zM), zCl Rg M → f_Mo_lastOf_21 O n s0 M = some q → zFr Rg M q.2 := by
  intro n s0 M hcl h
  rw [f_Mo_lastOf_21] at h
  have g := zFr.rf hcl
  obtain rfl := z_res h
  exact g
set_option maxRecDepth 100000 in
set_option maxHeartbeats 4000000 in
theorem g_Mo_lastOf_0 {Rg : Nat → Prop} {O : zO} {q : Int32 × zM} : ∀ (n : Nat) (l0 : Int32) (M : zM), zCl Rg M → f_Mo_lastOf_0 O n l0 M = some q → zFr Rg M q.2 := by
  intro n l0 M hcl h
  rw [f_Mo_lastOf_0] at h
  have g := zFr.rf hcl
  by_cases c2 : l0 = 0
  · have h := zift h c2
    exact g.tr (g_Mo_lastOf_21 n (35 : Int32) M g.cl h)
  · have h := ziff h c2
    by_cases c1 : l0 = (1 : Int32)
    · have h := zift h c1
      exact g.tr (g_Mo_lastOf_21 n (31 : Int32) M g.cl h)
    · have h := ziff h c1
      exact g.tr (g_Mo_lastOf_21 n (52 : Int32) M g.cl h)
theorem G_Mo_lastOf {Rg : Nat → Prop} {O : zO} {n : Nat} {l0 : Int32} {M : zM} {q : Int32 × zM} (hcl : zCl Rg M) (h : F_Mo_lastOf O n l0 M = some q) : zFr Rg M q.2 := g_Mo_lastOf_0 n l0 M hcl h

set_option maxRecDepth 100000 in
set_option maxHeartbeats 4000000 in
theorem g_Mo_layTable_0 {Rg : Nat → Prop} {O : zO} {q : Unit × zM} : ∀ (n : Nat) (l0 : Nat) (l1 : Int32) (M : zM), zCl Rg M → Rg l0 → f_Mo_layTable_0 O n l0 l1 M = some q → zFr Rg M q.2 := by
  intro n l0 l1 M hcl hR_l0 h
  rw [f_Mo_layTable_0] at h
  have g := zFr.rf hcl
  obtain ⟨h1, h⟩ := zif h
  have r1 : Rg (z_p M l0 15) := g.cl _ _ hR_l0
  have r2 : Rg (z_p M l0 16) := g.cl _ _ hR_l0
  obtain ⟨h2, h⟩ := zif h
  obtain ⟨h3, h⟩ := zif h
  have r3 : Rg (z_p M l0 17) := g.cl _ _ hR_l0
  have r4 : Rg (z_p M l0 18) := g.cl _ _ hR_l0
  have r5 : Rg (z_p M l0 19) := g.cl _ _ hR_l0
  obtain ⟨q4, c5, h⟩ := zbd h
  have g := g.tr (G_Mo_lay g.cl hR_l0 r1 r3 r4 r5 c5)
  obtain rfl := z_res h
  exact g
theorem G_Mo_layTable {Rg : Nat → Prop} {O : zO} {n : Nat} {l0 : Nat} {l1 : Int32} {M : zM} {q : Unit × zM} (hcl : zCl Rg M) (hR_l0 : Rg l0) (h : F_Mo_layTable O n l0 l1 M = some q) : zFr Rg M q.2 := g_Mo_layTable_0 n l0 l1 M hcl hR_l0 h

set_option maxRecDepth 100000 in
set_option maxHeartbeats 4000000 in
theorem g_Mo_keepDraft_2 {Rg : Nat → Prop} {O : zO} {q : Unit × zM} : ∀ (n : Nat) (l0 : Nat) (l1 : Int32) (l2 : Int32) (M : zM), zCl Rg M → Rg l0 → f_Mo_keepDraft_2 O n l0 l1 l2 M = some q → zFr Rg M q.2 := by
  intro n
  induction n with
  | zero => intro l0 l1 l2 M hcl hR_l0 h; rw [f_Mo_keepDraft_2] at h; cases h
  | succ n ih =>
    intro l0 l1 l2 M hcl hR_l0 h
    rw [f_Mo_keepDraft_2] at h
    have g := zFr.rf hcl
    by_cases c22 : (64 : Int32) ≤ l2
    · have h := zift h c22
      obtain ⟨h1, h⟩ := zif h
      have r1 : Rg (z_p M l0 16) := g.cl _ _ hR_l0
      obtain ⟨h2, h⟩ := zif h
      obtain ⟨h3, h⟩ := zif h
      obtain ⟨M4, e5, h⟩ := zlet_ex h
      have g := g.i r1 e5
      have h6 := k_i e5 h1
      have h7 := k_i e5 h2
      obtain ⟨q8, c9, h⟩ := zbd h
      have g := g.tr (G_Mo_layTable g.cl hR_l0 c9)
      obtain rfl := z_res h
      exact g
    · have h := ziff h c22
      obtain ⟨h10, h⟩ := zif h
      have r2 : Rg (z_p M l0 15) := g.cl _ _ hR_l0
      have r3 : Rg (z_p M l0 21) := g.cl _ _ hR_l0
      obtain ⟨h11, h⟩ := zif h
      obtain ⟨h12, h⟩ := zif h
      obtain ⟨h13, h⟩ := zif h
      obtain ⟨h14, h⟩ := zif h
      obtain ⟨M15, e16, h⟩ := zlet_ex h
      have g := g.i r2 e16
      have h17 := k_i e16 h10
      have h18 := k_i e16 h11
      have h19 := k_i e16 h13
      obtain ⟨v20, e21, h⟩ := zlet_ex h
      exact g.tr (ih l0 l1 v20 M15 g.cl hR_l0 h)
set_option maxRecDepth 100000 in
set_option maxHeartbeats 4000000 in
theorem g_Mo_keepDraft_0 {Rg : Nat → Prop} {O : zO} {q : Unit × zM} : ∀ (n : Nat) (l0 : Nat) (l1 : Int32) (M : zM), zCl Rg M → Rg l0 → f_Mo_keepDraft_0 O n l0 l1 M = some q → zFr Rg M q.2 := by
  intro n l0 l1 M hcl hR_l0 h
  rw [f_Mo_keepDraft_0] at h
  have g := zFr.rf hcl
  exact g.tr (g_Mo_keepDraft_2 n l0 l1 (0 : Int32) M g.cl hR_l0 h)
theorem G_Mo_keepDraft {Rg : Nat → Prop} {O : zO} {n : Nat} {l0 : Nat} {l1 : Int32} {M : zM} {q : Unit × zM} (hcl : zCl Rg M) (hR_l0 : Rg l0) (h : F_Mo_keepDraft O n l0 l1 M = some q) : zFr Rg M q.2 := g_Mo_keepDraft_0 n l0 l1 M hcl hR_l0 h

set_option maxRecDepth 100000 in
set_option maxHeartbeats 4000000 in
theorem g_Mo_number_7 {Rg : Nat → Prop} {O : zO} {q : Int64 × zM} : ∀ (n : Nat) (l0 : Nat) (l1 : Int32) (l3 : Int64) (l5 : Int32) (M : zM), zCl Rg M → Rg l0 → f_Mo_number_7 O n l0 l1 l3 l5 M = some q → zFr Rg M q.2 := by
  intro n
  induction n with
  | zero => intro l0 l1 l3 l5 M hcl hR_l0 h; rw [f_Mo_number_7] at h; cases h
  | succ n ih =>
    intro l0 l1 l3 l5 M hcl hR_l0 h
    rw [f_Mo_number_7] at h
    have g := zFr.rf hcl
    by_cases c8 : l5 < 0
    · have h := zift h c8
      obtain rfl := z_res h
      exact g
    · have h := ziff h c8
      obtain ⟨h1, h⟩ := zif h
      have r1 : Rg (z_p M l0 0) := g.cl _ _ hR_l0
      obtain ⟨h2, h⟩ := zif h
      obtain ⟨h3, h⟩ := zif h
      obtain ⟨v4, e5, h⟩ := zlet_ex h
      obtain ⟨v6, e7, h⟩ := zlet_ex h
      exact g.tr (ih l0 l1 v4 v6 M g.cl hR_l0 h)
set_option maxRecDepth 100000 in
set_option maxHeartbeats 4000000 in
theorem g_Mo_number_0 {Rg : Nat → Prop} {O : zO} {q : Int64 × zM} : ∀ (n : Nat) (l0 : Nat) (l1 : Int32) (l2 : Int32) (M : zM), zCl Rg M → Rg l0 → f_Mo_number_0 O n l0 l1 l2 M = some q → zFr Rg M q.2 := by
  intro n l0 l1 l2 M hcl hR_l0 h
  rw [f_Mo_number_0] at h
  have g := zFr.rf hcl
  obtain ⟨v1, e2, h⟩ := zlet_ex h
  exact g.tr (g_Mo_number_7 n l0 l1 (0 : Int64) v1 M g.cl hR_l0 h)
theorem G_Mo_number {Rg : Nat → Prop} {O : zO} {n : Nat} {l0 : Nat} {l1 : Int32} {l2 : Int32} {M : zM} {q : Int64 × zM} (hcl : zCl Rg M) (hR_l0 : Rg l0) (h : F_Mo_number O n l0 l1 l2 M = some q) : zFr Rg M q.2 := g_Mo_number_0 n l0 l1 l2 M hcl hR_l0 h

set_option maxRecDepth 100000 in
set_option maxHeartbeats 4000000 in
theorem g_Mo_learn_349 {Rg : Nat → Prop} {O : zO} {q : Int32 × zM} : ∀ (n : Nat) (l0 : Nat) (l3 : Int32) (M : zM), zCl Rg M → Rg l0 → f_Mo_learn_349 O n l0 l3 M = some q → zFr Rg M q.2 := by
  intro n
  induction n with
  | zero => intro l0 l3 M hcl hR_l0 h; rw [f_Mo_learn_349] at h; cases h
  | succ n ih =>
    intro l0 l3 M hcl hR_l0 h
    rw [f_Mo_learn_349] at h
    have g := zFr.rf hcl
    by_cases c28 : (3 : Int32) ≤ l3
    · have h := zift h c28
      obtain ⟨h1, h⟩ := zif h
      obtain ⟨M2, e3, h⟩ := zlet_ex h
      have g := g.i hR_l0 e3
      have h4 := k_i e3 h1
      obtain rfl := z_res h
      exact g
    · have h := ziff h c28
      obtain ⟨h5, h⟩ := zif h
      have r10 : Rg (z_p M l0 10) := g.cl _ _ hR_l0
      have r11 : Rg (z_p M l0 16) := g.cl _ _ hR_l0
      obtain ⟨h6, h⟩ := zif h
      obtain ⟨h7, h⟩ := zif h
      obtain ⟨h8, h⟩ := zif h
      obtain ⟨h9, h⟩ := zif h
      obtain ⟨M10, e11, h⟩ := zlet_ex h
      have g := g.i r10 e11
      have h12 := k_i e11 h5
      have h13 := k_i e11 h6
      have h14 := k_i e11 h8
      have r12 : Rg (z_p M10 l0 11) := g.cl _ _ hR_l0
      have r13 : Rg (z_p M10 l0 20) := g.cl _ _ hR_l0
      obtain ⟨h15, h⟩ := zif h
      obtain ⟨h16, h⟩ := zif h
      obtain ⟨h17, h⟩ := zif h
      obtain ⟨h18, h⟩ := zif h
      obtain ⟨M19, e20, h⟩ := zlet_ex h
      have g := g.j r12 e20
      have h21 := k_j e20 h12
      have h22 := k_j e20 h13
      have h23 := k_j e20 h14
      have h24 := k_j e20 h15
      have h25 := k_j e20 h17
      obtain ⟨v26, e27, h⟩ := zlet_ex h
      exact g.tr (ih l0 v26 M19 g.cl hR_l0 h)
set_option maxRecDepth 100000 in
set_option maxHeartbeats 4000000 in
theorem g_Mo_learn_322 {Rg : Nat → Prop} {O : zO} {q : Int32 × zM} : ∀ (n : Nat) (l0 : Nat) (l3 : Int32) (M : zM), zCl Rg M → Rg l0 → f_Mo_learn_322 O n l0 l3 M = some q → zFr Rg M q.2 := by
  intro n
  induction n with
  | zero => intro l0 l3 M hcl hR_l0 h; rw [f_Mo_learn_322] at h; cases h
  | succ n ih =>
    intro l0 l3 M hcl hR_l0 h
    rw [f_Mo_learn_322] at h
    have g := zFr.rf hcl
    by_cases c13 : (192 : Int32) ≤ l3
    · have h := zift h c13
      exact g.tr (g_Mo_learn_349 n l0 (0 : Int32) M g.cl hR_l0 h)
    · have h := ziff h c13
      obtain ⟨h1, h⟩ := zif h
      have r8 : Rg (z_p M l0 9) := g.cl _ _ hR_l0
      have r9 : Rg (z_p M l0 15) := g.cl _ _ hR_l0
      obtain ⟨h2, h⟩ := zif h
      obtain ⟨h3, h⟩ := zif h
      obtain ⟨h4, h⟩ := zif h
      obtain ⟨h5, h⟩ := zif h
      obtain ⟨M6, e7, h⟩ := zlet_ex h
      have g := g.i r8 e7
      have h8 := k_i e7 h1
      have h9 := k_i e7 h2
      have h10 := k_i e7 h4
      obtain ⟨v11, e12, h⟩ := zlet_ex h
      exact g.tr (ih l0 v11 M6 g.cl hR_l0 h)
set_option maxRecDepth 100000 in
set_option maxHeartbeats 4000000 in
theorem g_Mo_learn_295 {Rg : Nat → Prop} {O : zO} {q : Int32 × zM} : ∀ (n : Nat) (l0 : Nat) (l3 : Int32) (M : zM), zCl Rg M → Rg l0 → f_Mo_learn_295 O n l0 l3 M = some q → zFr Rg M q.2 := by
  intro n
  induction n with
  | zero => intro l0 l3 M hcl hR_l0 h; rw [f_Mo_learn_295] at h; cases h
  | succ n ih =>
    intro l0 l3 M hcl hR_l0 h
    rw [f_Mo_learn_295] at h
    have g := zFr.rf hcl
    by_cases c13 : (256 : Int32) ≤ l3
    · have h := zift h c13
      exact g.tr (g_Mo_learn_322 n l0 (0 : Int32) M g.cl hR_l0 h)
    · have h := ziff h c13
      obtain ⟨h1, h⟩ := zif h
      have r6 : Rg (z_p M l0 8) := g.cl _ _ hR_l0
      have r7 : Rg (z_p M l0 12) := g.cl _ _ hR_l0
      obtain ⟨h2, h⟩ := zif h
      obtain ⟨h3, h⟩ := zif h
      obtain ⟨h4, h⟩ := zif h
      obtain ⟨h5, h⟩ := zif h
      obtain ⟨M6, e7, h⟩ := zlet_ex h
      have g := g.i r6 e7
      have h8 := k_i e7 h1
      have h9 := k_i e7 h2
      have h10 := k_i e7 h4
      obtain ⟨v11, e12, h⟩ := zlet_ex h
      exact g.tr (ih l0 v11 M6 g.cl hR_l0 h)
set_option maxRecDepth 100000 in
set_option maxHeartbeats 4000000 in
theorem g_Mo_learn_265 {Rg : Nat → Prop} {O : zO} {q : Int32 × zM} : ∀ (n : Nat) (l0 : Nat) (l1 : Int32) (l3 : Int32) (M : zM), zCl Rg M → Rg l0 → f_Mo_learn_265 O n l0 l1 l3 M = some q → zFr Rg M q.2 := by
  intro n
  induction n with
  | zero => intro l0 l1 l3 M hcl hR_l0 h; rw [f_Mo_learn_265] at h; cases h
  | succ n ih =>
    intro l0 l1 l3 M hcl hR_l0 h
    rw [f_Mo_learn_265] at h
    have g := zFr.rf hcl
    obtain ⟨h1, h⟩ := zif h
    by_cases c13 : (z_i M l0 5) ≤ l3
    · have h := zift h c13
      exact g.tr (g_Mo_learn_295 n l0 (0 : Int32) M g.cl hR_l0 h)
    · have h := ziff h c13
      have r4 : Rg (z_p M l0 4) := g.cl _ _ hR_l0
      have r5 : Rg (z_p M l0 0) := g.cl _ _ hR_l0
      obtain ⟨h2, h⟩ := zif h
      obtain ⟨h3, h⟩ := zif h
      obtain ⟨h4, h⟩ := zif h
      obtain ⟨h5, h⟩ := zif h
      obtain ⟨M6, e7, h⟩ := zlet_ex h
      have g := g.i r4 e7
      have h8 := k_i e7 h1
      have h9 := k_i e7 h2
      have h10 := k_i e7 h4
      obtain ⟨v11, e12, h⟩ := zlet_ex h
      exact g.tr (ih l0 l1 v11 M6 g.cl hR_l0 h)
set_option maxRecDepth 100000 in
set_option maxHeartbeats 4000000 in
theorem g_Mo_learn_250 {Rg : Nat → Prop} {O : zO} {q : Int32 × zM} : ∀ (n : Nat) (l0 : Nat) (l1 : Int32) (s0 : Nat) (s1 : Int32) (M : zM), zCl Rg M → Rg l0 → Rg s0 → f_Mo_learn_250 O n l0 l1 s0 s1 M = some q → zFr Rg M q.2 := by
  intro n l0 l1 s0 s1 M hcl hR_l0 hR_s0 h
  rw [f_Mo_learn_250] at h
  have g := zFr.rf hcl
  obtain ⟨h1, h⟩ := zif h
  obtain ⟨M2, e3, h⟩ := zlet_ex h
  have g := g.i hR_s0 e3
  have h4 := k_i e3 h1
  obtain ⟨h5, h⟩ := zif h
  obtain ⟨M6, e7, h⟩ := zlet_ex h
  have g := g.i hR_l0 e7
  have h8 := k_i e7 h4
  have h9 := k_i e7 h5
  exact g.tr (g_Mo_learn_265 n l0 l1 (0 : Int32) M6 g.cl hR_l0 h)
set_option maxRecDepth 100000 in
set_option maxHeartbeats 4000000 in
theorem g_Mo_learn_229 {Rg : Nat → Prop} {O : zO} {q : Int32 × zM} : ∀ (n : Nat) (l0 : Nat) (l1 : Int32) (l2 : Int32) (M : zM), zCl Rg M → Rg l0 → f_Mo_learn_229 O n l0 l1 l2 M = some q → zFr Rg M q.2 := by
  intro n l0 l1 l2 M hcl hR_l0 h
  rw [f_Mo_learn_229] at h
  have g := zFr.rf hcl
  obtain ⟨h1, h⟩ := zif h
  obtain ⟨h2, h⟩ := zif h
  obtain ⟨M3, e4, h⟩ := zlet_ex h
  have g := g.i hR_l0 e4
  have h5 := k_i e4 h1
  by_cases c8 : l2 = 0
  · have h := zift h c8
    exact g.tr (g_Mo_learn_250 n l0 l1 l0 (0 : Int32) M3 g.cl hR_l0 hR_l0 h)
  · have h := ziff h c8
    obtain ⟨q6, c7, h⟩ := zbd h
    have g := g.tr (G_Mo_number g.cl hR_l0 c7)
    exact g.tr (g_Mo_learn_250 n l0 l1 l0 q6.1.toInt32 q6.2 g.cl hR_l0 hR_l0 h)
set_option maxRecDepth 100000 in
set_option maxHeartbeats 4000000 in
theorem g_Mo_learn_220 {Rg : Nat → Prop} {O : zO} {q : Int32 × zM} : ∀ (n : Nat) (M : zM), zCl Rg M → f_Mo_learn_220 O n M = some q → zFr Rg M q.2 := by
  intro n M hcl h
  rw [f_Mo_learn_220] at h
  have g := zFr.rf hcl
  obtain rfl := z_res h
  exact g
set_option maxRecDepth 100000 in
set_option maxHeartbeats 4000000 in
theorem g_Mo_learn_166 {Rg : Nat → Prop} {O : zO} {q : Int32 × zM} : ∀ (n : Nat) (l0 : Nat) (l1 : Int32) (l2 : Int32) (l3 : Int32) (l4 : Int32) (M : zM), zCl Rg M → Rg l0 → f_Mo_learn_166 O n l0 l1 l2 l3 l4 M = some q → zFr Rg M q.2 := by
  intro n
  induction n with
  | zero => intro l0 l1 l2 l3 l4 M hcl hR_l0 h; rw [f_Mo_learn_166] at h; cases h
  | succ n ih =>
    intro l0 l1 l2 l3 l4 M hcl hR_l0 h
    rw [f_Mo_learn_166] at h
    have g := zFr.rf hcl
    by_cases c17 : (3 : Int32) ≤ l4
    · have h := zift h c17
      exact g.tr (g_Mo_learn_229 n l0 l1 l2 M g.cl hR_l0 h)
    · have h := ziff h c17
      obtain ⟨h1, h⟩ := zif h
      have r1 : Rg (z_p M l0 20) := g.cl _ _ hR_l0
      obtain ⟨q2, c3, h⟩ := zbd h
      have g := g.tr (G_Mo_number g.cl hR_l0 c3)
      obtain ⟨h4, h⟩ := zif h
      obtain ⟨h5, h⟩ := zif h
      obtain ⟨M6, e7, h⟩ := zlet_ex h
      have g := g.j r1 e7
      have h8 := k_j e7 h4
      obtain ⟨h9, h⟩ := zif h
      have r2 : Rg (z_p M6 l0 20) := g.cl _ _ hR_l0
      obtain ⟨h10, h⟩ := zif h
      obtain ⟨h11, h⟩ := zif h
      by_cases c16 : (lg_cmp (z_j M6 (z_p M6 l0 20) l4.toNatClampNeg) (0 : Int64)) = 0
      · have h := zift h c16
        exact g.tr (g_Mo_learn_220 n M6 g.cl h)
      · have h := ziff h c16
        have r3 : Rg (z_p M6 l0 20) := g.cl _ _ hR_l0
        obtain ⟨h12, h⟩ := zif h
        by_cases c15 : (lg_cmp (z_j M6 (z_p M6 l0 20) l4.toNatClampNeg) ((z_i M6 l0 1) - l1).toInt64) ≤ 0
        · have h := zift h c15
          obtain ⟨v13, e14, h⟩ := zlet_ex h
          exact g.tr (ih l0 l1 l2 l3 v13 M6 g.cl hR_l0 h)
        · have h := ziff h c15
          exact g.tr (g_Mo_learn_220 n M6 g.cl h)
set_option maxRecDepth 100000 in
set_option maxHeartbeats 4000000 in
theorem g_Mo_learn_117 {Rg : Nat → Prop} {O : zO} {q : Int32 × zM} {k70 : Nat → Int32 → Int32 → Int32 → zM → Option (Int32 × zM)} (hk70 : ∀ (l0 : Nat) (l2 : Int32) (l3 : Int32) (l4 : Int32) (M : zM), zCl Rg M → Rg l0 → k70 l0 l2 l3 l4 M = some q → zFr Rg M q.2) : ∀ (n : Nat) (l0 : Nat) (l2 : Int32) (l4 : Int32) (l5 : Int32) (s0 : Nat) (s1 : Int32) (s2 : Int32) (s3 : Int32) (M : zM), zCl Rg M → Rg l0 → Rg s0 → f_Mo_learn_117 O k70 n l0 l2 l4 l5 s0 s1 s2 s3 M = some q → zFr Rg M q.2 := by
  intro n l0 l2 l4 l5 s0 s1 s2 s3 M hcl hR_l0 hR_s0 h
  rw [f_Mo_learn_117] at h
  have g := zFr.rf hcl
  obtain ⟨q1, c2, h⟩ := zbd h
  have g := g.tr (G_Mo_lastOf g.cl c2)
  obtain ⟨h3, h⟩ := zif h
  obtain ⟨q4, c5, h⟩ := zbd h
  have g := g.tr (G_Mo_share g.cl hR_s0 c5)
  by_cases c11 : 0 ≤ q4.1
  · have h := zift h c11
    obtain ⟨h6, h⟩ := zif h
    obtain ⟨q7, c8, h⟩ := zbd h
    have g := g.tr (G_Mo_keepDraft g.cl hR_l0 c8)
    obtain ⟨v9, e10, h⟩ := zlet_ex h
    exact g.tr (hk70 l0 l2 q4.1 v9 q7.2 g.cl hR_l0 h)
  · have h := ziff h c11
    obtain rfl := z_res h
    exact g
set_option maxRecDepth 100000 in
set_option maxHeartbeats 4000000 in
theorem g_Mo_learn_96 {Rg : Nat → Prop} {O : zO} {q : Int32 × zM} {k70 : Nat → Int32 → Int32 → Int32 → zM → Option (Int32 × zM)} (hk70 : ∀ (l0 : Nat) (l2 : Int32) (l3 : Int32) (l4 : Int32) (M : zM), zCl Rg M → Rg l0 → k70 l0 l2 l3 l4 M = some q → zFr Rg M q.2) : ∀ (n : Nat) (l0 : Nat) (l2 : Int32) (l3 : Int32) (l4 : Int32) (s0 : Int32) (M : zM), zCl Rg M → Rg l0 → f_Mo_learn_96 O k70 n l0 l2 l3 l4 s0 M = some q → zFr Rg M q.2 := by
  intro n l0 l2 l3 l4 s0 M hcl hR_l0 h
  rw [f_Mo_learn_96] at h
  have g := zFr.rf hcl
  obtain ⟨h1, h⟩ := zif h
  by_cases c2 : s0 = (1 : Int32)
  · have h := zift h c2
    exact g.tr (g_Mo_learn_117 hk70 n l0 l2 l4 s0 l0 l3 (z_i M l0 1) (8 : Int32) M g.cl hR_l0 hR_l0 h)
  · have h := ziff h c2
    exact g.tr (g_Mo_learn_117 hk70 n l0 l2 l4 s0 l0 l3 (z_i M l0 1) (9 : Int32) M g.cl hR_l0 hR_l0 h)
set_option maxRecDepth 100000 in
set_option maxHeartbeats 4000000 in
theorem g_Mo_learn_70 {Rg : Nat → Prop} {O : zO} {q : Int32 × zM} : ∀ (n : Nat) (l0 : Nat) (l2 : Int32) (l3 : Int32) (l4 : Int32) (M : zM), zCl Rg M → Rg l0 → f_Mo_learn_70 O n l0 l2 l3 l4 M = some q → zFr Rg M q.2 := by
  intro n
  induction n with
  | zero => intro l0 l2 l3 l4 M hcl hR_l0 h; rw [f_Mo_learn_70] at h; cases h
  | succ n ih =>
    intro l0 l2 l3 l4 M hcl hR_l0 h
    rw [f_Mo_learn_70] at h
    have g := zFr.rf hcl
    by_cases c7 : (3 : Int32) ≤ l4
    · have h := zift h c7
      obtain ⟨h1, h⟩ := zif h
      by_cases c4 : (l3 + (12 : Int32)) ≤ (z_i M l0 1)
      · have h := zift h c4
        obtain ⟨v2, e3, h⟩ := zlet_ex h
        exact g.tr (g_Mo_learn_166 n l0 v2 l2 l3 (0 : Int32) M g.cl hR_l0 h)
      · have h := ziff h c4
        obtain rfl := z_res h
        exact g
    · have h := ziff h c7
      by_cases c6 : l4 = 0
      · have h := zift h c6
        exact g.tr (g_Mo_learn_96 ih n l0 l2 l3 l4 (1 : Int32) M g.cl hR_l0 h)
      · have h := ziff h c6
        by_cases c5 : l4 = (1 : Int32)
        · have h := zift h c5
          exact g.tr (g_Mo_learn_96 ih n l0 l2 l3 l4 (2 : Int32) M g.cl hR_l0 h)
        · have h := ziff h c5
          exact g.tr (g_Mo_learn_96 ih n l0 l2 l3 l4 (0 : Int32) M g.cl hR_l0 h)
set_option maxRecDepth 100000 in
set_option maxHeartbeats 4000000 in
theorem g_Mo_learn_33 {Rg : Nat → Prop} {O : zO} {q : Int32 × zM} : ∀ (n : Nat) (l0 : Nat) (l1 : Int32) (s0 : Int32) (M : zM), zCl Rg M → Rg l0 → f_Mo_learn_33 O n l0 l1 s0 M = some q → zFr Rg M q.2 := by
  intro n l0 l1 s0 M hcl hR_l0 h
  rw [f_Mo_learn_33] at h
  have g := zFr.rf hcl
  by_cases c6 : s0 = 0
  · have h := zift h c6
    exact g.tr (g_Mo_learn_229 n l0 l1 s0 M g.cl hR_l0 h)
  · have h := ziff h c6
    obtain ⟨h1, h⟩ := zif h
    by_cases c5 : (8 : Int32) ≤ (z_i M l0 1)
    · have h := zift h c5
      obtain ⟨q2, c3, h⟩ := zbd h
      have g := g.tr (G_Mo_describe g.cl hR_l0 c3)
      by_cases c4 : 0 ≤ q2.1
      · have h := zift h c4
        exact g.tr (g_Mo_learn_70 n l0 s0 q2.1 (0 : Int32) q2.2 g.cl hR_l0 h)
      · have h := ziff h c4
        obtain rfl := z_res h
        exact g
    · have h := ziff h c5
      obtain rfl := z_res h
      exact g
set_option maxRecDepth 100000 in
set_option maxHeartbeats 4000000 in
theorem g_Mo_learn_32 {Rg : Nat → Prop} {O : zO} {q : Int32 × zM} : ∀ (n : Nat) (l0 : Nat) (l1 : Int32) (M : zM), zCl Rg M → Rg l0 → f_Mo_learn_32 O n l0 l1 M = some q → zFr Rg M q.2 := by
  intro n l0 l1 M hcl hR_l0 h
  rw [f_Mo_learn_32] at h
  have g := zFr.rf hcl
  exact g.tr (g_Mo_learn_33 n l0 l1 (0 : Int32) M g.cl hR_l0 h)
set_option maxRecDepth 100000 in
set_option maxHeartbeats 4000000 in
theorem g_Mo_learn_0 {Rg : Nat → Prop} {O : zO} {q : Int32 × zM} : ∀ (n : Nat) (l0 : Nat) (M : zM), zCl Rg M → Rg l0 → f_Mo_learn_0 O n l0 M = some q → zFr Rg M q.2 := by
  intro n l0 M hcl hR_l0 h
  rw [f_Mo_learn_0] at h
  have g := zFr.rf hcl
  obtain ⟨h1, h⟩ := zif h
  by_cases c5 : (z_i M l0 1) < (4 : Int32)
  · have h := zift h c5
    exact g.tr (g_Mo_learn_32 n l0 (0 : Int32) M g.cl hR_l0 h)
  · have h := ziff h c5
    obtain ⟨q2, c3, h⟩ := zbd h
    have g := g.tr (G_Mo_stands g.cl hR_l0 c3)
    by_cases c4 : q2.1 = 0
    · have h := zift h c4
      exact g.tr (g_Mo_learn_32 n l0 (0 : Int32) q2.2 g.cl hR_l0 h)
    · have h := ziff h c4
      exact g.tr (g_Mo_learn_33 n l0 (0 : Int32) (1 : Int32) q2.2 g.cl hR_l0 h)
theorem G_Mo_learn {Rg : Nat → Prop} {O : zO} {n : Nat} {l0 : Nat} {M : zM} {q : Int32 × zM} (hcl : zCl Rg M) (hR_l0 : Rg l0) (h : F_Mo_learn O n l0 M = some q) : zFr Rg M q.2 := g_Mo_learn_0 n l0 M hcl hR_l0 h

set_option maxRecDepth 100000 in
set_option maxHeartbeats 4000000 in
theorem g_Mo_wrong_0 {Rg : Nat → Prop} {O : zO} {q : Int32 × zM} : ∀ (n : Nat) (l0 : Nat) (l1 : Int32) (l2 : Int32) (M : zM), zCl Rg M → Rg l0 → f_Mo_wrong_0 O n l0 l1 l2 M = some q → zFr Rg M q.2 := by
  intro n l0 l1 l2 M hcl hR_l0 h
  rw [f_Mo_wrong_0] at h
  have g := zFr.rf hcl
  obtain ⟨h1, h⟩ := zif h
  obtain ⟨M2, e3, h⟩ := zlet_ex h
  have g := g.i hR_l0 e3
  have h4 := k_i e3 h1
  obtain ⟨M5, e6, h⟩ := zlet_ex h
  have g := g.i hR_l0 e6
  have h7 := k_i e6 h4
  obtain rfl := z_res h
  exact g
theorem G_Mo_wrong {Rg : Nat → Prop} {O : zO} {n : Nat} {l0 : Nat} {l1 : Int32} {l2 : Int32} {M : zM} {q : Int32 × zM} (hcl : zCl Rg M) (hR_l0 : Rg l0) (h : F_Mo_wrong O n l0 l1 l2 M = some q) : zFr Rg M q.2 := g_Mo_wrong_0 n l0 l1 l2 M hcl hR_l0 h

set_option maxRecDepth 100000 in
set_option maxHeartbeats 4000000 in
theorem g_Mo_has_30 {Rg : Nat → Prop} {O : zO} {q : Int32 × zM} : ∀ (n : Nat) (s0 : Int32) (M : zM), zCl Rg M → f_Mo_has_30 O n s0 M = some q → zFr Rg M q.2 := by
  intro n s0 M hcl h
  rw [f_Mo_has_30] at h
  have g := zFr.rf hcl
  obtain ⟨h1, h⟩ := zif h
  obtain rfl := z_res h
  exact g
set_option maxRecDepth 100000 in
set_option maxHeartbeats 4000000 in
theorem g_Mo_has_25 {Rg : Nat → Prop} {O : zO} {q : Int32 × zM} : ∀ (n : Nat) (M : zM), zCl Rg M → f_Mo_has_25 O n M = some q → zFr Rg M q.2 := by
  intro n M hcl h
  rw [f_Mo_has_25] at h
  have g := zFr.rf hcl
  exact g.tr (g_Mo_has_30 n (1 : Int32) M g.cl h)
set_option maxRecDepth 100000 in
set_option maxHeartbeats 4000000 in
theorem g_Mo_has_0 {Rg : Nat → Prop} {O : zO} {q : Int32 × zM} : ∀ (n : Nat) (l0 : Nat) (l1 : Int32) (M : zM), zCl Rg M → Rg l0 → f_Mo_has_0 O n l0 l1 M = some q → zFr Rg M q.2 := by
  intro n l0 l1 M hcl hR_l0 h
  rw [f_Mo_has_0] at h
  have g := zFr.rf hcl
  obtain ⟨h1, h⟩ := zif h
  by_cases c5 : l1 ≤ ((z_i M l0 1) - (z_i M l0 28))
  · have h := zift h c5
    exact g.tr (g_Mo_has_25 n M g.cl h)
  · have h := ziff h c5
    obtain ⟨q2, c3, h⟩ := zbd h
    have g := g.tr (G_Mo_wrong g.cl hR_l0 c3)
    by_cases c4 : q2.1 = 0
    · have h := zift h c4
      exact g.tr (g_Mo_has_30 n (0 : Int32) q2.2 g.cl h)
    · have h := ziff h c4
      exact g.tr (g_Mo_has_25 n q2.2 g.cl h)
theorem G_Mo_has {Rg : Nat → Prop} {O : zO} {n : Nat} {l0 : Nat} {l1 : Int32} {M : zM} {q : Int32 × zM} (hcl : zCl Rg M) (hR_l0 : Rg l0) (h : F_Mo_has O n l0 l1 M = some q) : zFr Rg M q.2 := g_Mo_has_0 n l0 l1 M hcl hR_l0 h

set_option maxRecDepth 100000 in
set_option maxHeartbeats 4000000 in
theorem g_Mo_tell_32 {Rg : Nat → Prop} {O : zO} {q : Unit × zM} : ∀ (n : Nat) (s0 : Nat) (s1 : Int32) (M : zM), zCl Rg M → Rg s0 → f_Mo_tell_32 O n s0 s1 M = some q → zFr Rg M q.2 := by
  intro n s0 s1 M hcl hR_s0 h
  rw [f_Mo_tell_32] at h
  have g := zFr.rf hcl
  obtain ⟨h1, h⟩ := zif h
  obtain ⟨M2, e3, h⟩ := zlet_ex h
  have g := g.i hR_s0 e3
  have h4 := k_i e3 h1
  obtain rfl := z_res h
  exact g
set_option maxRecDepth 100000 in
set_option maxHeartbeats 4000000 in
theorem g_Mo_tell_21 {Rg : Nat → Prop} {O : zO} {q : Unit × zM} : ∀ (n : Nat) (s0 : Nat) (M : zM), zCl Rg M → Rg s0 → f_Mo_tell_21 O n s0 M = some q → zFr Rg M q.2 := by
  intro n s0 M hcl hR_s0 h
  rw [f_Mo_tell_21] at h
  have g := zFr.rf hcl
  exact g.tr (g_Mo_tell_32 n s0 (2147483647 : Int32) M g.cl hR_s0 h)
set_option maxRecDepth 100000 in
set_option maxHeartbeats 4000000 in
theorem g_Mo_tell_0 {Rg : Nat → Prop} {O : zO} {q : Unit × zM} : ∀ (n : Nat) (l0 : Nat) (M : zM), zCl Rg M → Rg l0 → f_Mo_tell_0 O n l0 M = some q → zFr Rg M q.2 := by
  intro n l0 M hcl hR_l0 h
  rw [f_Mo_tell_0] at h
  have g := zFr.rf hcl
  obtain ⟨h1, h⟩ := zif h
  by_cases c3 : (lg_cmp (z_j M l0 38) (0 : Int64)) < 0
  · have h := zift h c3
    exact g.tr (g_Mo_tell_21 n l0 M g.cl hR_l0 h)
  · have h := ziff h c3
    by_cases c2 : (lg_cmp (z_j M l0 38) (2147483647 : Int64)) ≤ 0
    · have h := zift h c2
      exact g.tr (g_Mo_tell_32 n l0 (z_j M l0 38).toInt32 M g.cl hR_l0 h)
    · have h := ziff h c2
      exact g.tr (g_Mo_tell_21 n l0 M g.cl hR_l0 h)
theorem G_Mo_tell {Rg : Nat → Prop} {O : zO} {n : Nat} {l0 : Nat} {M : zM} {q : Unit × zM} (hcl : zCl Rg M) (hR_l0 : Rg l0) (h : F_Mo_tell O n l0 M = some q) : zFr Rg M q.2 := g_Mo_tell_0 n l0 M hcl hR_l0 h

set_option maxRecDepth 100000 in
set_option maxHeartbeats 4000000 in
theorem g_Mo_beginFrame_143 {Rg : Nat → Prop} {O : zO} {q : Unit × zM} : ∀ (n : Nat) (l0 : Nat) (l1 : Int32) (M : zM), zCl Rg M → Rg l0 → f_Mo_beginFrame_143 O n l0 l1 M = some q → zFr Rg M q.2 := by
  intro n
  induction n with
  | zero => intro l0 l1 M hcl hR_l0 h; rw [f_Mo_beginFrame_143] at h; cases h
  | succ n ih =>
    intro l0 l1 M hcl hR_l0 h
    rw [f_Mo_beginFrame_143] at h
    have g := zFr.rf hcl
    by_cases c26 : (3 : Int32) ≤ l1
    · have h := zift h c26
      obtain rfl := z_res h
      exact g
    · have h := ziff h c26
      obtain ⟨h1, h⟩ := zif h
      have r9 : Rg (z_p M l0 16) := g.cl _ _ hR_l0
      have r10 : Rg (z_p M l0 10) := g.cl _ _ hR_l0
      obtain ⟨h2, h⟩ := zif h
      obtain ⟨h3, h⟩ := zif h
      obtain ⟨h4, h⟩ := zif h
      obtain ⟨h5, h⟩ := zif h
      obtain ⟨M6, e7, h⟩ := zlet_ex h
      have g := g.i r9 e7
      have h8 := k_i e7 h1
      have h9 := k_i e7 h2
      have h10 := k_i e7 h4
      have r11 : Rg (z_p M6 l0 20) := g.cl _ _ hR_l0
      have r12 : Rg (z_p M6 l0 11) := g.cl _ _ hR_l0
      obtain ⟨h11, h⟩ := zif h
      obtain ⟨h12, h⟩ := zif h
      obtain ⟨h13, h⟩ := zif h
      obtain ⟨h14, h⟩ := zif h
      obtain ⟨M15, e16, h⟩ := zlet_ex h
      have g := g.j r11 e16
      have h17 := k_j e16 h8
      have h18 := k_j e16 h9
      have h19 := k_j e16 h10
      have h20 := k_j e16 h11
      have h21 := k_j e16 h13
      obtain ⟨q22, c23, h⟩ := zbd h
      have g := g.tr (G_Mo_layTable g.cl hR_l0 c23)
      obtain ⟨v24, e25, h⟩ := zlet_ex h
      exact g.tr (ih l0 v24 q22.2 g.cl hR_l0 h)
set_option maxRecDepth 100000 in
set_option maxHeartbeats 4000000 in
theorem g_Mo_beginFrame_116 {Rg : Nat → Prop} {O : zO} {q : Unit × zM} : ∀ (n : Nat) (l0 : Nat) (l1 : Int32) (M : zM), zCl Rg M → Rg l0 → f_Mo_beginFrame_116 O n l0 l1 M = some q → zFr Rg M q.2 := by
  intro n
  induction n with
  | zero => intro l0 l1 M hcl hR_l0 h; rw [f_Mo_beginFrame_116] at h; cases h
  | succ n ih =>
    intro l0 l1 M hcl hR_l0 h
    rw [f_Mo_beginFrame_116] at h
    have g := zFr.rf hcl
    by_cases c13 : (192 : Int32) ≤ l1
    · have h := zift h c13
      exact g.tr (g_Mo_beginFrame_143 n l0 (0 : Int32) M g.cl hR_l0 h)
    · have h := ziff h c13
      obtain ⟨h1, h⟩ := zif h
      have r7 : Rg (z_p M l0 15) := g.cl _ _ hR_l0
      have r8 : Rg (z_p M l0 9) := g.cl _ _ hR_l0
      obtain ⟨h2, h⟩ := zif h
      obtain ⟨h3, h⟩ := zif h
      obtain ⟨h4, h⟩ := zif h
      obtain ⟨h5, h⟩ := zif h
      obtain ⟨M6, e7, h⟩ := zlet_ex h
      have g := g.i r7 e7
      have h8 := k_i e7 h1
      have h9 := k_i e7 h2
      have h10 := k_i e7 h4
      obtain ⟨v11, e12, h⟩ := zlet_ex h
      exact g.tr (ih l0 v11 M6 g.cl hR_l0 h)
set_option maxRecDepth 100000 in
set_option maxHeartbeats 4000000 in
theorem g_Mo_beginFrame_101 {Rg : Nat → Prop} {O : zO} {q : Unit × zM} {k55 : Nat → Int32 → zM → Option (Unit × zM)} (hk55 : ∀ (l0 : Nat) (l1 : Int32) (M : zM), zCl Rg M → Rg l0 → k55 l0 l1 M = some q → zFr Rg M q.2) : ∀ (n : Nat) (l0 : Nat) (l1 : Int32) (s0 : Nat) (s1 : Int32) (M : zM), zCl Rg M → Rg l0 → Rg s0 → f_Mo_beginFrame_101 O k55 n l0 l1 s0 s1 M = some q → zFr Rg M q.2 := by
  intro n l0 l1 s0 s1 M hcl hR_l0 hR_s0 h
  rw [f_Mo_beginFrame_101] at h
  have g := zFr.rf hcl
  obtain ⟨h1, h⟩ := zif h
  obtain ⟨M2, e3, h⟩ := zlet_ex h
  have g := g.i hR_s0 e3
  have h4 := k_i e3 h1
  obtain ⟨v5, e6, h⟩ := zlet_ex h
  exact g.tr (hk55 l0 v5 M2 g.cl hR_l0 h)
set_option maxRecDepth 100000 in
set_option maxHeartbeats 4000000 in
theorem g_Mo_beginFrame_55 {Rg : Nat → Prop} {O : zO} {q : Unit × zM} : ∀ (n : Nat) (l0 : Nat) (l1 : Int32) (M : zM), zCl Rg M → Rg l0 → f_Mo_beginFrame_55 O n l0 l1 M = some q → zFr Rg M q.2 := by
  intro n
  induction n with
  | zero => intro l0 l1 M hcl hR_l0 h; rw [f_Mo_beginFrame_55] at h; cases h
  | succ n ih =>
    intro l0 l1 M hcl hR_l0 h
    rw [f_Mo_beginFrame_55] at h
    have g := zFr.rf hcl
    by_cases c18 : (256 : Int32) ≤ l1
    · have h := zift h c18
      obtain ⟨h1, h⟩ := zif h
      obtain ⟨q2, c3, h⟩ := zbd h
      have g := g.tr (G_Mo_layCells g.cl hR_l0 c3)
      exact g.tr (g_Mo_beginFrame_116 n l0 (0 : Int32) q2.2 g.cl hR_l0 h)
    · have h := ziff h c18
      obtain ⟨h4, h⟩ := zif h
      have r3 : Rg (z_p M l0 12) := g.cl _ _ hR_l0
      have r4 : Rg (z_p M l0 8) := g.cl _ _ hR_l0
      obtain ⟨h5, h⟩ := zif h
      obtain ⟨h6, h⟩ := zif h
      obtain ⟨h7, h⟩ := zif h
      obtain ⟨h8, h⟩ := zif h
      obtain ⟨M9, e10, h⟩ := zlet_ex h
      have g := g.i r3 e10
      have h11 := k_i e10 h4
      have h12 := k_i e10 h5
      have h13 := k_i e10 h7
      have r5 : Rg (z_p M9 l0 12) := g.cl _ _ hR_l0
      obtain ⟨h14, h⟩ := zif h
      obtain ⟨h15, h⟩ := zif h
      by_cases c17 : (z_i M9 (z_p M9 l0 12) l1.toNatClampNeg) ≤ (z_i M9 l0 13)
      · have h := zift h c17
        exact g.tr (g_Mo_beginFrame_101 ih n l0 l1 l0 (z_i M9 l0 13) M9 g.cl hR_l0 hR_l0 h)
      · have h := ziff h c17
        have r6 : Rg (z_p M9 l0 12) := g.cl _ _ hR_l0
        obtain ⟨h16, h⟩ := zif h
        exact g.tr (g_Mo_beginFrame_101 ih n l0 l1 l0 (z_i M9 (z_p M9 l0 12) l1.toNatClampNeg) M9 g.cl hR_l0 hR_l0 h)
set_option maxRecDepth 100000 in
set_option maxHeartbeats 4000000 in
theorem g_Mo_beginFrame_38 {Rg : Nat → Prop} {O : zO} {q : Unit × zM} {k7 : Nat → Int32 → zM → Option (Unit × zM)} (hk7 : ∀ (l0 : Nat) (l1 : Int32) (M : zM), zCl Rg M → Rg l0 → k7 l0 l1 M = some q → zFr Rg M q.2) : ∀ (n : Nat) (l0 : Nat) (l1 : Int32) (s0 : Nat) (s1 : Int32) (s2 : Int64) (M : zM), zCl Rg M → Rg l0 → Rg s0 → f_Mo_beginFrame_38 O k7 n l0 l1 s0 s1 s2 M = some q → zFr Rg M q.2 := by
  intro n l0 l1 s0 s1 s2 M hcl hR_l0 hR_s0 h
  rw [f_Mo_beginFrame_38] at h
  have g := zFr.rf hcl
  obtain ⟨h1, h⟩ := zif h
  obtain ⟨h2, h⟩ := zif h
  obtain ⟨M3, e4, h⟩ := zlet_ex h
  have g := g.j hR_s0 e4
  have h5 := k_j e4 h1
  obtain ⟨v6, e7, h⟩ := zlet_ex h
  exact g.tr (hk7 l0 v6 M3 g.cl hR_l0 h)
set_option maxRecDepth 100000 in
set_option maxHeartbeats 4000000 in
theorem g_Mo_beginFrame_7 {Rg : Nat → Prop} {O : zO} {q : Unit × zM} : ∀ (n : Nat) (l0 : Nat) (l1 : Int32) (M : zM), zCl Rg M → Rg l0 → f_Mo_beginFrame_7 O n l0 l1 M = some q → zFr Rg M q.2 := by
  intro n
  induction n with
  | zero => intro l0 l1 M hcl hR_l0 h; rw [f_Mo_beginFrame_7] at h; cases h
  | succ n ih =>
    intro l0 l1 M hcl hR_l0 h
    rw [f_Mo_beginFrame_7] at h
    have g := zFr.rf hcl
    by_cases c11 : (3 : Int32) ≤ l1
    · have h := zift h c11
      obtain ⟨h1, h⟩ := zif h
      by_cases c2 : (z_i M l0 7) = 0
      · have h := zift h c2
        obtain rfl := z_res h
        exact g
      · have h := ziff h c2
        exact g.tr (g_Mo_beginFrame_55 n l0 (0 : Int32) M g.cl hR_l0 h)
    · have h := ziff h c11
      obtain ⟨h3, h⟩ := zif h
      have r1 : Rg (z_p M l0 16) := g.cl _ _ hR_l0
      obtain ⟨h4, h⟩ := zif h
      obtain ⟨h5, h⟩ := zif h
      obtain ⟨M6, e7, h⟩ := zlet_ex h
      have g := g.i r1 e7
      have h8 := k_i e7 h3
      have h9 := k_i e7 h4
      have r2 : Rg (z_p M6 l0 20) := g.cl _ _ hR_l0
      by_cases c10 : l1 = 0
      · have h := zift h c10
        exact g.tr (g_Mo_beginFrame_38 ih n l0 l1 (z_p M6 l0 20) l1 (1 : Int64) M6 g.cl hR_l0 r2 h)
      · have h := ziff h c10
        exact g.tr (g_Mo_beginFrame_38 ih n l0 l1 (z_p M6 l0 20) l1 ((4 : Int64) * l1.toInt64) M6 g.cl hR_l0 r2 h)
set_option maxRecDepth 100000 in
set_option maxHeartbeats 4000000 in
theorem g_Mo_beginFrame_0 {Rg : Nat → Prop} {O : zO} {q : Unit × zM} : ∀ (n : Nat) (l0 : Nat) (M : zM), zCl Rg M → Rg l0 → f_Mo_beginFrame_0 O n l0 M = some q → zFr Rg M q.2 := by
  intro n l0 M hcl hR_l0 h
  rw [f_Mo_beginFrame_0] at h
  have g := zFr.rf hcl
  obtain ⟨h1, h⟩ := zif h
  obtain ⟨M2, e3, h⟩ := zlet_ex h
  have g := g.i hR_l0 e3
  have h4 := k_i e3 h1
  exact g.tr (g_Mo_beginFrame_7 n l0 (0 : Int32) M2 g.cl hR_l0 h)
theorem G_Mo_beginFrame {Rg : Nat → Prop} {O : zO} {n : Nat} {l0 : Nat} {M : zM} {q : Unit × zM} (hcl : zCl Rg M) (hR_l0 : Rg l0) (h : F_Mo_beginFrame O n l0 M = some q) : zFr Rg M q.2 := g_Mo_beginFrame_0 n l0 M hcl hR_l0 h

set_option maxRecDepth 100000 in
set_option maxHeartbeats 4000000 in
theorem g_Mo_decode_151 {Rg : Nat → Prop} {O : zO} {q : Int32 × zM} : ∀ (n : Nat) (s0 : Int32) (M : zM), zCl Rg M → f_Mo_decode_151 O n s0 M = some q → zFr Rg M q.2 := by
  intro n s0 M hcl h
  rw [f_Mo_decode_151] at h
  have g := zFr.rf hcl
  obtain ⟨h1, h⟩ := zif h
  obtain rfl := z_res h
  exact g
set_option maxRecDepth 100000 in
set_option maxHeartbeats 4000000 in
theorem g_Mo_decode_69 {Rg : Nat → Prop} {O : zO} {q : Int32 × zM} {k14 : Nat → Int32 → Int32 → zM → Option (Int32 × zM)} (hk14 : ∀ (l0 : Nat) (l3 : Int32) (l4 : Int32) (M : zM), zCl Rg M → Rg l0 → k14 l0 l3 l4 M = some q → zFr Rg M q.2) {k26 : Nat → Int32 → Int32 → Int32 → Int32 → zM → Option (Int32 × zM)} (hk26 : ∀ (l0 : Nat) (l3 : Int32) (l4 : Int32) (l5 : Int32) (l6 : Int32) (M : zM), zCl Rg M → Rg l0 → k26 l0 l3 l4 l5 l6 M = some q → zFr Rg M q.2) : ∀ (n : Nat) (l0 : Nat) (l3 : Int32) (l4 : Int32) (l6 : Int32) (s0 : Int32) (s1 : Int32) (M : zM), zCl Rg M → Rg l0 → f_Mo_decode_69 O k14 k26 n l0 l3 l4 l6 s0 s1 M = some q → zFr Rg M q.2 := by
  intro n l0 l3 l4 l6 s0 s1 M hcl hR_l0 h
  rw [f_Mo_decode_69] at h
  have g := zFr.rf hcl
  obtain ⟨v1, e2, h⟩ := zlet_ex h
  obtain ⟨v3, e4, h⟩ := zlet_ex h
  exact g.tr (hk26 l0 l3 l4 v1 v3 M g.cl hR_l0 h)
set_option maxRecDepth 100000 in
set_option maxHeartbeats 4000000 in
theorem g_Mo_decode_26 {Rg : Nat → Prop} {O : zO} {q : Int32 × zM} {k14 : Nat → Int32 → Int32 → zM → Option (Int32 × zM)} (hk14 : ∀ (l0 : Nat) (l3 : Int32) (l4 : Int32) (M : zM), zCl Rg M → Rg l0 → k14 l0 l3 l4 M = some q → zFr Rg M q.2) : ∀ (n : Nat) (l0 : Nat) (l3 : Int32) (l4 : Int32) (l5 : Int32) (l6 : Int32) (M : zM), zCl Rg M → Rg l0 → f_Mo_decode_26 O k14 n l0 l3 l4 l5 l6 M = some q → zFr Rg M q.2 := by
  intro n
  induction n with
  | zero => intro l0 l3 l4 l5 l6 M hcl hR_l0 h; rw [f_Mo_decode_26] at h; cases h
  | succ n ih =>
    intro l0 l3 l4 l5 l6 M hcl hR_l0 h
    rw [f_Mo_decode_26] at h
    have g := zFr.rf hcl
    obtain ⟨h1, h⟩ := zif h
    by_cases c33 : (z_i M l0 13) < l6
    · have h := zift h c33
      have r1 : Rg (z_p M l0 14) := g.cl _ _ hR_l0
      obtain ⟨h2, h⟩ := zif h
      obtain ⟨h3, h⟩ := zif h
      obtain ⟨v4, e5, h⟩ := zlet_ex h
      have r2 : Rg (z_p M l0 12) := g.cl _ _ hR_l0
      obtain ⟨h6, h⟩ := zif h
      obtain ⟨h7, h⟩ := zif h
      obtain ⟨M8, e9, h⟩ := zlet_ex h
      have g := g.i hR_l0 e9
      have h10 := k_i e9 h1
      have h11 := k_i e9 h2
      have h12 := k_i e9 h6
      by_cases c29 : 0 ≤ (z_i M8 l0 48)
      · have h := zift h c29
        have r3 : Rg (z_p M8 l0 41) := g.cl _ _ hR_l0
        obtain ⟨h13, h⟩ := zif h
        obtain ⟨h14, h⟩ := zif h
        obtain ⟨M15, e16, h⟩ := zlet_ex h
        have g := g.i r3 e16
        have h17 := k_i e16 h10
        have h18 := k_i e16 h11
        have h19 := k_i e16 h12
        have h20 := k_i e16 h13
        obtain ⟨M21, e22, h⟩ := zlet_ex h
        have g := g.i hR_l0 e22
        have h23 := k_i e22 h17
        have h24 := k_i e22 h18
        have h25 := k_i e22 h19
        have h26 := k_i e22 h20
        obtain ⟨v27, e28, h⟩ := zlet_ex h
        exact g.tr (hk14 l0 l3 v27 M21 g.cl hR_l0 h)
      · have h := ziff h c29
        obtain rfl := z_res h
        exact g
    · have h := ziff h c33
      by_cases c32 : ((z_i M l0 48) - l6) < 0
      · have h := zift h c32
        exact g.tr (g_Mo_decode_69 hk14 ih n l0 l3 l4 l6 ((2 : Int32) * l5) (0 : Int32) M g.cl hR_l0 h)
      · have h := ziff h c32
        obtain ⟨q30, c31, h⟩ := zbd h
        have g := g.tr (G_Mo_bit g.cl hR_l0 c31)
        exact g.tr (g_Mo_decode_69 hk14 ih n l0 l3 l4 l6 ((2 : Int32) * l5) q30.1 q30.2 g.cl hR_l0 h)
set_option maxRecDepth 100000 in
set_option maxHeartbeats 4000000 in
theorem g_Mo_decode_14 {Rg : Nat → Prop} {O : zO} {q : Int32 × zM} : ∀ (n : Nat) (l0 : Nat) (l3 : Int32) (l4 : Int32) (M : zM), zCl Rg M → Rg l0 → f_Mo_decode_14 O n l0 l3 l4 M = some q → zFr Rg M q.2 := by
  intro n
  induction n with
  | zero => intro l0 l3 l4 M hcl hR_l0 h; rw [f_Mo_decode_14] at h; cases h
  | succ n ih =>
    intro l0 l3 l4 M hcl hR_l0 h
    rw [f_Mo_decode_14] at h
    have g := zFr.rf hcl
    by_cases c3 : l3 ≤ l4
    · have h := zift h c3
      obtain ⟨h1, h⟩ := zif h
      by_cases c2 : (z_i M l0 48) = 0
      · have h := zift h c2
        exact g.tr (g_Mo_decode_151 n (1 : Int32) M g.cl h)
      · have h := ziff h c2
        exact g.tr (g_Mo_decode_151 n (0 : Int32) M g.cl h)
    · have h := ziff h c3
      exact g.tr (g_Mo_decode_26 ih n l0 l3 l4 (0 : Int32) (1 : Int32) M g.cl hR_l0 h)
set_option maxRecDepth 100000 in
set_option maxHeartbeats 4000000 in
theorem g_Mo_decode_0 {Rg : Nat → Prop} {O : zO} {q : Int32 × zM} : ∀ (n : Nat) (l0 : Nat) (l1 : Int32) (l2 : Int32) (l3 : Int32) (M : zM), zCl Rg M → Rg l0 → f_Mo_decode_0 O n l0 l1 l2 l3 M = some q → zFr Rg M q.2 := by
  intro n l0 l1 l2 l3 M hcl hR_l0 h
  rw [f_Mo_decode_0] at h
  have g := zFr.rf hcl
  obtain ⟨h1, h⟩ := zif h
  obtain ⟨q2, c3, h⟩ := zbd h
  have g := g.tr (G_Mo_open g.cl hR_l0 c3)
  by_cases c4 : q2.1 = 0
  · have h := zift h c4
    obtain rfl := z_res h
    exact g
  · have h := ziff h c4
    exact g.tr (g_Mo_decode_14 n l0 l3 (0 : Int32) q2.2 g.cl hR_l0 h)
theorem G_Mo_decode {Rg : Nat → Prop} {O : zO} {n : Nat} {l0 : Nat} {l1 : Int32} {l2 : Int32} {l3 : Int32} {M : zM} {q : Int32 × zM} (hcl : zCl Rg M) (hR_l0 : Rg l0) (h : F_Mo_decode O n l0 l1 l2 l3 M = some q) : zFr Rg M q.2 := g_Mo_decode_0 n l0 l1 l2 l3 M hcl hR_l0 h
