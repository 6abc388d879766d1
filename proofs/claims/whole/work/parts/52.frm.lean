set_option maxRecDepth 100000 in
set_option maxHeartbeats 4000000 in
theorem g_FR_plain_77 {Rg : Nat → Prop} {O : zO} {q : Int32 × zM} : ∀ (n : Nat) (M : zM), zCl Rg M → f_FR_plain_77 O n M = some q → zFr Rg M q.2 := by
  intro n M hcl h
  rw [f_FR_plain_77] at h
  have g := zFr.rf hcl
  obtain rfl := z_res h
  exact g
set_option maxRecDepth 100000 in
set_option maxHeartbeats 4000000 in
theorem g_FR_plain_0 {Rg : Nat → Prop} {O : zO} {q : Int32 × zM} : ∀ (n : Nat) (l0 : Nat) (l1 : Int32) (l2 : Int32) (M : zM), zCl Rg M → Rg l0 → f_FR_plain_0 O n l0 l1 l2 M = some q → zFr Rg M q.2 := by
  intro n l0 l1 l2 M hcl hR_l0 h
  rw [f_FR_plain_0] at h
  have g := zFr.rf hcl
  obtain ⟨h1, h⟩ := zif h
  have r1 : Rg (z_p M l0 3) := g.cl _ _ hR_l0
  obtain ⟨h2, h⟩ := zif h
  obtain ⟨q3, c4, h⟩ := zbd h
  have g := g.tr (G_Content_overMost g.cl r1 c4)
  by_cases c24 : q3.1 = 0
  · have h := zift h c24
    by_cases c18 : l1 = 0
    · have h := zift h c18
      obtain ⟨h13, h⟩ := zif h
      have r5 : Rg (z_p q3.2 l0 3) := g.cl _ _ hR_l0
      obtain ⟨h14, h⟩ := zif h
      have r6 : Rg (z_p q3.2 (z_p q3.2 l0 3) 0) := g.cl _ _ r5
      have r7 : Rg (z_p q3.2 l0 0) := g.cl _ _ hR_l0
      obtain ⟨h15, h⟩ := zif h
      obtain ⟨q16, c17, h⟩ := zbd h
      have g := g.tr (G_Row_putPart g.cl r6 r7 c17)
      exact g.tr (g_FR_plain_77 n q16.2 g.cl h)
    · have h := ziff h c18
      obtain ⟨h5, h⟩ := zif h
      have r2 : Rg (z_p q3.2 l0 3) := g.cl _ _ hR_l0
      obtain ⟨h6, h⟩ := zif h
      have r3 : Rg (z_p q3.2 (z_p q3.2 l0 3) 0) := g.cl _ _ r2
      have r4 : Rg (z_p q3.2 l0 0) := g.cl _ _ hR_l0
      obtain ⟨h7, h⟩ := zif h
      obtain ⟨q8, c9, h⟩ := zbd h
      have g := g.tr (G_Row_at g.cl r4 c9)
      obtain ⟨h10, h⟩ := zif h
      obtain ⟨q11, c12, h⟩ := zbd h
      have g := g.tr (G_Row_putTimes g.cl r3 c12)
      exact g.tr (g_FR_plain_77 n q11.2 g.cl h)
  · have h := ziff h c24
    obtain ⟨h19, h⟩ := zif h
    have r8 : Rg (z_p q3.2 l0 2) := g.cl _ _ hR_l0
    obtain ⟨h20, h⟩ := zif h
    obtain ⟨q21, c22, h⟩ := zbd h
    have g := g.tr (G_Rep_fail g.cl r8 c22)
    obtain ⟨h23, h⟩ := zif h
    obtain rfl := z_res h
    exact g
theorem G_FR_plain {Rg : Nat → Prop} {O : zO} {n : Nat} {l0 : Nat} {l1 : Int32} {l2 : Int32} {M : zM} {q : Int32 × zM} (hcl : zCl Rg M) (hR_l0 : Rg l0) (h : F_FR_plain O n l0 l1 l2 M = some q) : zFr Rg M q.2 := g_FR_plain_0 n l0 l1 l2 M hcl hR_l0 h

set_option maxRecDepth 100000 in
set_option maxHeartbeats 4000000 in
theorem g_Lit_plainHead_96 {Rg : Nat → Prop} {O : zO} {q : Int32 × zM} : ∀ (n : Nat) (s0 : Nat) (s1 : Int32) (s2 : Int32) (M : zM), zCl Rg M → Rg s0 → f_Lit_plainHead_96 O n s0 s1 s2 M = some q → zFr Rg M q.2 := by
  intro n s0 s1 s2 M hcl hR_s0 h
  rw [f_Lit_plainHead_96] at h
  have g := zFr.rf hcl
  obtain ⟨h1, h⟩ := zif h
  obtain ⟨M2, e3, h⟩ := zlet_ex h
  have g := g.i hR_s0 e3
  have h4 := k_i e3 h1
  obtain rfl := z_res h
  exact g
set_option maxRecDepth 100000 in
set_option maxHeartbeats 4000000 in
theorem g_Lit_plainHead_65 {Rg : Nat → Prop} {O : zO} {q : Int32 × zM} : ∀ (n : Nat) (l0 : Nat) (l1 : Int32) (l3 : Int32) (s0 : Nat) (s1 : Int32) (s2 : Int32) (M : zM), zCl Rg M → Rg l0 → Rg s0 → f_Lit_plainHead_65 O n l0 l1 l3 s0 s1 s2 M = some q → zFr Rg M q.2 := by
  intro n l0 l1 l3 s0 s1 s2 M hcl hR_l0 hR_s0 h
  rw [f_Lit_plainHead_65] at h
  have g := zFr.rf hcl
  obtain ⟨h1, h⟩ := zif h
  obtain ⟨M2, e3, h⟩ := zlet_ex h
  have g := g.i hR_s0 e3
  have h4 := k_i e3 h1
  obtain ⟨h5, h⟩ := zif h
  obtain ⟨M6, e7, h⟩ := zlet_ex h
  have g := g.i hR_l0 e7
  have h8 := k_i e7 h4
  have h9 := k_i e7 h5
  by_cases c10 : (z_i M6 l0 10) = 0
  · have h := zift h c10
    exact g.tr (g_Lit_plainHead_96 n l0 (z_i M6 l0 12) (z_i M6 l0 7) M6 g.cl hR_l0 h)
  · have h := ziff h c10
    exact g.tr (g_Lit_plainHead_96 n l0 (z_i M6 l0 12) (1 : Int32) M6 g.cl hR_l0 h)
set_option maxRecDepth 100000 in
set_option maxHeartbeats 4000000 in
theorem g_Lit_plainHead_25 {Rg : Nat → Prop} {O : zO} {q : Int32 × zM} : ∀ (n : Nat) (l0 : Nat) (l1 : Int32) (l2 : Int32) (s0 : Int32) (M : zM), zCl Rg M → Rg l0 → f_Lit_plainHead_25 O n l0 l1 l2 s0 M = some q → zFr Rg M q.2 := by
  intro n l0 l1 l2 s0 M hcl hR_l0 h
  rw [f_Lit_plainHead_25] at h
  have g := zFr.rf hcl
  by_cases c11 : s0 ≤ (l2 - l1)
  · have h := zift h c11
    obtain ⟨h1, h⟩ := zif h
    have r1 : Rg (z_p M l0 0) := g.cl _ _ hR_l0
    obtain ⟨h2, h⟩ := zif h
    obtain ⟨q3, c4, h⟩ := zbd h
    have g := g.tr (G_Row_number g.cl r1 c4)
    by_cases c5 : s0 = (1 : Int32)
    · have h := zift h c5
      exact g.tr (g_Lit_plainHead_65 n l0 l1 s0 l0 q3.1.toInt32 (3 : Int32) q3.2 g.cl hR_l0 hR_l0 h)
    · have h := ziff h c5
      exact g.tr (g_Lit_plainHead_65 n l0 l1 s0 l0 q3.1.toInt32 (4 : Int32) q3.2 g.cl hR_l0 hR_l0 h)
  · have h := ziff h c11
    obtain ⟨h6, h⟩ := zif h
    have r2 : Rg (z_p M l0 1) := g.cl _ _ hR_l0
    obtain ⟨h7, h⟩ := zif h
    obtain ⟨q8, c9, h⟩ := zbd h
    have g := g.tr (G_Rep_fail g.cl r2 c9)
    obtain ⟨h10, h⟩ := zif h
    obtain rfl := z_res h
    exact g
set_option maxRecDepth 100000 in
set_option maxHeartbeats 4000000 in
theorem g_Lit_plainHead_0 {Rg : Nat → Prop} {O : zO} {q : Int32 × zM} : ∀ (n : Nat) (l0 : Nat) (l1 : Int32) (l2 : Int32) (M : zM), zCl Rg M → Rg l0 → f_Lit_plainHead_0 O n l0 l1 l2 M = some q → zFr Rg M q.2 := by
  intro n l0 l1 l2 M hcl hR_l0 h
  rw [f_Lit_plainHead_0] at h
  have g := zFr.rf hcl
  obtain ⟨h1, h⟩ := zif h
  by_cases c3 : (z_i M l0 11) = (1 : Int32)
  · have h := zift h c3
    exact g.tr (g_Lit_plainHead_25 n l0 l1 l2 (2 : Int32) M g.cl hR_l0 h)
  · have h := ziff h c3
    by_cases c2 : (z_i M l0 11) = (3 : Int32)
    · have h := zift h c2
      exact g.tr (g_Lit_plainHead_25 n l0 l1 l2 (3 : Int32) M g.cl hR_l0 h)
    · have h := ziff h c2
      exact g.tr (g_Lit_plainHead_25 n l0 l1 l2 (1 : Int32) M g.cl hR_l0 h)
theorem G_Lit_plainHead {Rg : Nat → Prop} {O : zO} {n : Nat} {l0 : Nat} {l1 : Int32} {l2 : Int32} {M : zM} {q : Int32 × zM} (hcl : zCl Rg M) (hR_l0 : Rg l0) (h : F_Lit_plainHead O n l0 l1 l2 M = some q) : zFr Rg M q.2 := g_Lit_plainHead_0 n l0 l1 l2 M hcl hR_l0 h

set_option maxRecDepth 100000 in
set_option maxHeartbeats 4000000 in
theorem g_Lit_codedHead_59 {Rg : Nat → Prop} {O : zO} {q : Int32 × zM} : ∀ (n : Nat) (l0 : Nat) (l1 : Int32) (l3 : Int32) (s0 : Int32) (M : zM), zCl Rg M → Rg l0 → f_Lit_codedHead_59 O n l0 l1 l3 s0 M = some q → zFr Rg M q.2 := by
  intro n l0 l1 l3 s0 M hcl hR_l0 h
  rw [f_Lit_codedHead_59] at h
  have g := zFr.rf hcl
  obtain ⟨h1, h⟩ := zif h
  have r2 : Rg (z_p M l0 0) := g.cl _ _ hR_l0
  obtain ⟨h2, h⟩ := zif h
  obtain ⟨q3, c4, h⟩ := zbd h
  have g := g.tr (G_Row_number g.cl r2 c4)
  obtain ⟨v5, e6, h⟩ := zlet_ex h
  obtain ⟨h7, h⟩ := zif h
  obtain ⟨M8, e9, h⟩ := zlet_ex h
  have g := g.i hR_l0 e9
  have h10 := k_i e9 h7
  obtain ⟨M11, e12, h⟩ := zlet_ex h
  have g := g.i hR_l0 e12
  have h13 := k_i e12 h10
  obtain ⟨M14, e15, h⟩ := zlet_ex h
  have g := g.i hR_l0 e15
  have h16 := k_i e15 h13
  obtain rfl := z_res h
  exact g
set_option maxRecDepth 100000 in
set_option maxHeartbeats 4000000 in
theorem g_Lit_codedHead_18 {Rg : Nat → Prop} {O : zO} {q : Int32 × zM} : ∀ (n : Nat) (l0 : Nat) (l1 : Int32) (l2 : Int32) (s0 : Int32) (M : zM), zCl Rg M → Rg l0 → f_Lit_codedHead_18 O n l0 l1 l2 s0 M = some q → zFr Rg M q.2 := by
  intro n l0 l1 l2 s0 M hcl hR_l0 h
  rw [f_Lit_codedHead_18] at h
  have g := zFr.rf hcl
  by_cases c8 : s0 ≤ (l2 - l1)
  · have h := zift h c8
    obtain ⟨h1, h⟩ := zif h
    by_cases c2 : (2 : Int32) ≤ (z_i M l0 11)
    · have h := zift h c2
      exact g.tr (g_Lit_codedHead_59 n l0 l1 s0 (((4 : Int32) * (z_i M l0 11)) + (6 : Int32)) M g.cl hR_l0 h)
    · have h := ziff h c2
      exact g.tr (g_Lit_codedHead_59 n l0 l1 s0 (10 : Int32) M g.cl hR_l0 h)
  · have h := ziff h c8
    obtain ⟨h3, h⟩ := zif h
    have r1 : Rg (z_p M l0 1) := g.cl _ _ hR_l0
    obtain ⟨h4, h⟩ := zif h
    obtain ⟨q5, c6, h⟩ := zbd h
    have g := g.tr (G_Rep_fail g.cl r1 c6)
    obtain ⟨h7, h⟩ := zif h
    obtain rfl := z_res h
    exact g
set_option maxRecDepth 100000 in
set_option maxHeartbeats 4000000 in
theorem g_Lit_codedHead_0 {Rg : Nat → Prop} {O : zO} {q : Int32 × zM} : ∀ (n : Nat) (l0 : Nat) (l1 : Int32) (l2 : Int32) (M : zM), zCl Rg M → Rg l0 → f_Lit_codedHead_0 O n l0 l1 l2 M = some q → zFr Rg M q.2 := by
  intro n l0 l1 l2 M hcl hR_l0 h
  rw [f_Lit_codedHead_0] at h
  have g := zFr.rf hcl
  obtain ⟨h1, h⟩ := zif h
  by_cases c2 : (2 : Int32) ≤ (z_i M l0 11)
  · have h := zift h c2
    exact g.tr (g_Lit_codedHead_18 n l0 l1 l2 ((z_i M l0 11) + (2 : Int32)) M g.cl hR_l0 h)
  · have h := ziff h c2
    exact g.tr (g_Lit_codedHead_18 n l0 l1 l2 (3 : Int32) M g.cl hR_l0 h)
theorem G_Lit_codedHead {Rg : Nat → Prop} {O : zO} {n : Nat} {l0 : Nat} {l1 : Int32} {l2 : Int32} {M : zM} {q : Int32 × zM} (hcl : zCl Rg M) (hR_l0 : Rg l0) (h : F_Lit_codedHead O n l0 l1 l2 M = some q) : zFr Rg M q.2 := g_Lit_codedHead_0 n l0 l1 l2 M hcl hR_l0 h

set_option maxRecDepth 100000 in
set_option maxHeartbeats 4000000 in
theorem g_Lit_quarter_0 {Rg : Nat → Prop} {O : zO} {q : Int32 × zM} : ∀ (n : Nat) (l0 : Nat) (M : zM), zCl Rg M → Rg l0 → f_Lit_quarter_0 O n l0 M = some q → zFr Rg M q.2 := by
  intro n l0 M hcl hR_l0 h
  rw [f_Lit_quarter_0] at h
  have g := zFr.rf hcl
  obtain ⟨h1, h⟩ := zif h
  obtain rfl := z_res h
  exact g
theorem G_Lit_quarter {Rg : Nat → Prop} {O : zO} {n : Nat} {l0 : Nat} {M : zM} {q : Int32 × zM} (hcl : zCl Rg M) (hR_l0 : Rg l0) (h : F_Lit_quarter O n l0 M = some q) : zFr Rg M q.2 := g_Lit_quarter_0 n l0 M hcl hR_l0 h

set_option maxRecDepth 100000 in
set_option maxHeartbeats 4000000 in
theorem g_Lit_takePlain_51 {Rg : Nat → Prop} {O : zO} {q : Unit × zM} : ∀ (n : Nat) (M : zM), zCl Rg M → f_Lit_takePlain_51 O n M = some q → zFr Rg M q.2 := by
  intro n M hcl h
  rw [f_Lit_takePlain_51] at h
  have g := zFr.rf hcl
  obtain rfl := z_res h
  exact g
set_option maxRecDepth 100000 in
set_option maxHeartbeats 4000000 in
theorem g_Lit_takePlain_0 {Rg : Nat → Prop} {O : zO} {q : Unit × zM} : ∀ (n : Nat) (l0 : Nat) (M : zM), zCl Rg M → Rg l0 → f_Lit_takePlain_0 O n l0 M = some q → zFr Rg M q.2 := by
  intro n l0 M hcl hR_l0 h
  rw [f_Lit_takePlain_0] at h
  have g := zFr.rf hcl
  obtain ⟨h1, h⟩ := zif h
  by_cases c12 : (z_i M l0 10) = 0
  · have h := zift h c12
    have r3 : Rg (z_p M l0 4) := g.cl _ _ hR_l0
    have r4 : Rg (z_p M l0 0) := g.cl _ _ hR_l0
    obtain ⟨h9, h⟩ := zif h
    obtain ⟨q10, c11, h⟩ := zbd h
    have g := g.tr (G_Row_putPart g.cl r3 r4 c11)
    exact g.tr (g_Lit_takePlain_51 n q10.2 g.cl h)
  · have h := ziff h c12
    have r1 : Rg (z_p M l0 4) := g.cl _ _ hR_l0
    have r2 : Rg (z_p M l0 0) := g.cl _ _ hR_l0
    obtain ⟨h2, h⟩ := zif h
    obtain ⟨q3, c4, h⟩ := zbd h
    have g := g.tr (G_Row_at g.cl r2 c4)
    obtain ⟨h5, h⟩ := zif h
    obtain ⟨h6, h⟩ := zif h
    obtain ⟨q7, c8, h⟩ := zbd h
    have g := g.tr (G_Row_putTimes g.cl r1 c8)
    exact g.tr (g_Lit_takePlain_51 n q7.2 g.cl h)
theorem G_Lit_takePlain {Rg : Nat → Prop} {O : zO} {n : Nat} {l0 : Nat} {M : zM} {q : Unit × zM} (hcl : zCl Rg M) (hR_l0 : Rg l0) (h : F_Lit_takePlain O n l0 M = some q) : zFr Rg M q.2 := g_Lit_takePlain_0 n l0 M hcl hR_l0 h

set_option maxRecDepth 100000 in
set_option maxHeartbeats 4000000 in
theorem g_Codes_next_33 {Rg : Nat → Prop} {O : zO} {q : Int32 × zM} : ∀ (n : Nat) (l0 : Nat) (l1 : Nat) (s0 : Int32) (M : zM), zCl Rg M → Rg l0 → Rg l1 → f_Codes_next_33 O n l0 l1 s0 M = some q → zFr Rg M q.2 := by
  intro n l0 l1 s0 M hcl hR_l0 hR_l1 h
  rw [f_Codes_next_33] at h
  have g := zFr.rf hcl
  obtain ⟨h1, h⟩ := zif h
  obtain ⟨h2, h⟩ := zif h
  have r3 : Rg (z_p M l0 1) := g.cl _ _ hR_l0
  obtain ⟨h3, h⟩ := zif h
  obtain ⟨h4, h⟩ := zif h
  obtain ⟨M5, e6, h⟩ := zlet_ex h
  have g := g.i hR_l1 e6
  have h7 := k_i e6 h1
  have h8 := k_i e6 h2
  have h9 := k_i e6 h3
  obtain rfl := z_res h
  exact g
set_option maxRecDepth 100000 in
set_option maxHeartbeats 4000000 in
theorem g_Codes_next_32 {Rg : Nat → Prop} {O : zO} {q : Int32 × zM} : ∀ (n : Nat) (l0 : Nat) (l1 : Nat) (M : zM), zCl Rg M → Rg l0 → Rg l1 → f_Codes_next_32 O n l0 l1 M = some q → zFr Rg M q.2 := by
  intro n l0 l1 M hcl hR_l0 hR_l1 h
  rw [f_Codes_next_32] at h
  have g := zFr.rf hcl
  exact g.tr (g_Codes_next_33 n l0 l1 (0 : Int32) M g.cl hR_l0 hR_l1 h)
set_option maxRecDepth 100000 in
set_option maxHeartbeats 4000000 in
theorem g_Codes_next_0 {Rg : Nat → Prop} {O : zO} {q : Int32 × zM} : ∀ (n : Nat) (l0 : Nat) (l1 : Nat) (M : zM), zCl Rg M → Rg l0 → Rg l1 → f_Codes_next_0 O n l0 l1 M = some q → zFr Rg M q.2 := by
  intro n l0 l1 M hcl hR_l0 hR_l1 h
  rw [f_Codes_next_0] at h
  have g := zFr.rf hcl
  obtain ⟨h1, h⟩ := zif h
  obtain ⟨h2, h⟩ := zif h
  obtain ⟨q3, c4, h⟩ := zbd h
  have g := g.tr (G_Stream_take g.cl hR_l1 c4)
  obtain ⟨v5, e6, h⟩ := zlet_ex h
  by_cases c11 : v5 < 0
  · have h := zift h c11
    exact g.tr (g_Codes_next_32 n l0 l1 q3.2 g.cl hR_l0 hR_l1 h)
  · have h := ziff h c11
    obtain ⟨h7, h⟩ := zif h
    have r1 : Rg (z_p q3.2 l0 2) := g.cl _ _ hR_l0
    obtain ⟨h8, h⟩ := zif h
    by_cases c10 : (Int32.ofNat (z_n q3.2 (z_p q3.2 l0 2))) ≤ v5
    · have h := zift h c10
      exact g.tr (g_Codes_next_32 n l0 l1 q3.2 g.cl hR_l0 hR_l1 h)
    · have h := ziff h c10
      have r2 : Rg (z_p q3.2 l0 2) := g.cl _ _ hR_l0
      obtain ⟨h9, h⟩ := zif h
      exact g.tr (g_Codes_next_33 n l0 l1 (z_i q3.2 (z_p q3.2 l0 2) v5.toNatClampNeg) q3.2 g.cl hR_l0 hR_l1 h)
theorem G_Codes_next {Rg : Nat → Prop} {O : zO} {n : Nat} {l0 : Nat} {l1 : Nat} {M : zM} {q : Int32 × zM} (hcl : zCl Rg M) (hR_l0 : Rg l0) (hR_l1 : Rg l1) (h : F_Codes_next O n l0 l1 M = some q) : zFr Rg M q.2 := g_Codes_next_0 n l0 l1 M hcl hR_l0 hR_l1 h

set_option maxRecDepth 100000 in
set_option maxHeartbeats 4000000 in
theorem g_Lit_takeStream_98 {Rg : Nat → Prop} {O : zO} {q : Int32 × zM} : ∀ (n : Nat) (s0 : Int32) (M : zM), zCl Rg M → f_Lit_takeStream_98 O n s0 M = some q → zFr Rg M q.2 := by
  intro n s0 M hcl h
  rw [f_Lit_takeStream_98] at h
  have g := zFr.rf hcl
  obtain ⟨h1, h⟩ := zif h
  obtain rfl := z_res h
  exact g
set_option maxRecDepth 100000 in
set_option maxHeartbeats 4000000 in
theorem g_Lit_takeStream_93 {Rg : Nat → Prop} {O : zO} {q : Int32 × zM} : ∀ (n : Nat) (M : zM), zCl Rg M → f_Lit_takeStream_93 O n M = some q → zFr Rg M q.2 := by
  intro n M hcl h
  rw [f_Lit_takeStream_93] at h
  have g := zFr.rf hcl
  exact g.tr (g_Lit_takeStream_98 n (1 : Int32) M g.cl h)
set_option maxRecDepth 100000 in
set_option maxHeartbeats 4000000 in
theorem g_Lit_takeStream_70 {Rg : Nat → Prop} {O : zO} {q : Int32 × zM} : ∀ (n : Nat) (l0 : Nat) (l1 : Int32) (M : zM), zCl Rg M → Rg l0 → f_Lit_takeStream_70 O n l0 l1 M = some q → zFr Rg M q.2 := by
  intro n l0 l1 M hcl hR_l0 h
  rw [f_Lit_takeStream_70] at h
  have g := zFr.rf hcl
  obtain ⟨h1, h⟩ := zif h
  have r8 : Rg (z_p M l0 2) := g.cl _ _ hR_l0
  obtain ⟨h2, h⟩ := zif h
  by_cases c7 : (z_i M (z_p M l0 2) 2) = 0
  · have h := zift h c7
    exact g.tr (g_Lit_takeStream_93 n M g.cl h)
  · have h := ziff h c7
    have r9 : Rg (z_p M l0 1) := g.cl _ _ hR_l0
    obtain ⟨h3, h⟩ := zif h
    obtain ⟨q4, c5, h⟩ := zbd h
    have g := g.tr (G_Rep_fail g.cl r9 c5)
    by_cases c6 : q4.1 = 0
    · have h := zift h c6
      exact g.tr (g_Lit_takeStream_98 n (0 : Int32) q4.2 g.cl h)
    · have h := ziff h c6
      exact g.tr (g_Lit_takeStream_93 n q4.2 g.cl h)
set_option maxRecDepth 100000 in
set_option maxHeartbeats 4000000 in
theorem g_Lit_takeStream_30 {Rg : Nat → Prop} {O : zO} {q : Int32 × zM} : ∀ (n : Nat) (l0 : Nat) (l1 : Int32) (l3 : Int32) (l4 : Int32) (M : zM), zCl Rg M → Rg l0 → f_Lit_takeStream_30 O n l0 l1 l3 l4 M = some q → zFr Rg M q.2 := by
  intro n
  induction n with
  | zero => intro l0 l1 l3 l4 M hcl hR_l0 h; rw [f_Lit_takeStream_30] at h; cases h
  | succ n ih =>
    intro l0 l1 l3 l4 M hcl hR_l0 h
    rw [f_Lit_takeStream_30] at h
    have g := zFr.rf hcl
    by_cases c12 : l3 ≤ l4
    · have h := zift h c12
      exact g.tr (g_Lit_takeStream_70 n l0 l1 M g.cl hR_l0 h)
    · have h := ziff h c12
      obtain ⟨h1, h⟩ := zif h
      have r4 : Rg (z_p M l0 2) := g.cl _ _ hR_l0
      obtain ⟨h2, h⟩ := zif h
      by_cases c11 : (z_i M (z_p M l0 2) 2) < 0
      · have h := zift h c11
        exact g.tr (g_Lit_takeStream_70 n l0 l1 M g.cl hR_l0 h)
      · have h := ziff h c11
        have r5 : Rg (z_p M l0 4) := g.cl _ _ hR_l0
        have r6 : Rg (z_p M l0 5) := g.cl _ _ hR_l0
        have r7 : Rg (z_p M l0 2) := g.cl _ _ hR_l0
        obtain ⟨h3, h⟩ := zif h
        obtain ⟨q4, c5, h⟩ := zbd h
        have g := g.tr (G_Codes_next g.cl r6 r7 c5)
        obtain ⟨h6, h⟩ := zif h
        obtain ⟨q7, c8, h⟩ := zbd h
        have g := g.tr (G_Row_put g.cl r5 c8)
        obtain ⟨v9, e10, h⟩ := zlet_ex h
        exact g.tr (ih l0 l1 l3 v9 q7.2 g.cl hR_l0 h)
set_option maxRecDepth 100000 in
set_option maxHeartbeats 4000000 in
theorem g_Lit_takeStream_0 {Rg : Nat → Prop} {O : zO} {q : Int32 × zM} : ∀ (n : Nat) (l0 : Nat) (l1 : Int32) (l2 : Int32) (l3 : Int32) (M : zM), zCl Rg M → Rg l0 → f_Lit_takeStream_0 O n l0 l1 l2 l3 M = some q → zFr Rg M q.2 := by
  intro n l0 l1 l2 l3 M hcl hR_l0 h
  rw [f_Lit_takeStream_0] at h
  have g := zFr.rf hcl
  obtain ⟨h1, h⟩ := zif h
  have r1 : Rg (z_p M l0 2) := g.cl _ _ hR_l0
  have r2 : Rg (z_p M l0 0) := g.cl _ _ hR_l0
  obtain ⟨h2, h⟩ := zif h
  obtain ⟨q3, c4, h⟩ := zbd h
  have g := g.tr (G_Stream_open g.cl r1 r2 c4)
  by_cases c10 : q3.1 = 0
  · have h := zift h c10
    obtain ⟨h5, h⟩ := zif h
    have r3 : Rg (z_p q3.2 l0 1) := g.cl _ _ hR_l0
    obtain ⟨h6, h⟩ := zif h
    obtain ⟨q7, c8, h⟩ := zbd h
    have g := g.tr (G_Rep_fail g.cl r3 c8)
    obtain ⟨h9, h⟩ := zif h
    obtain rfl := z_res h
    exact g
  · have h := ziff h c10
    exact g.tr (g_Lit_takeStream_30 n l0 l1 l3 (0 : Int32) q3.2 g.cl hR_l0 h)
theorem G_Lit_takeStream {Rg : Nat → Prop} {O : zO} {n : Nat} {l0 : Nat} {l1 : Int32} {l2 : Int32} {l3 : Int32} {M : zM} {q : Int32 × zM} (hcl : zCl Rg M) (hR_l0 : Rg l0) (h : F_Lit_takeStream O n l0 l1 l2 l3 M = some q) : zFr Rg M q.2 := g_Lit_takeStream_0 n l0 l1 l2 l3 M hcl hR_l0 h

set_option maxRecDepth 100000 in
set_option maxHeartbeats 4000000 in
theorem g_Lit_takeFour_173 {Rg : Nat → Prop} {O : zO} {q : Int32 × zM} : ∀ (n : Nat) (s0 : Int32) (M : zM), zCl Rg M → f_Lit_takeFour_173 O n s0 M = some q → zFr Rg M q.2 := by
  intro n s0 M hcl h
  rw [f_Lit_takeFour_173] at h
  have g := zFr.rf hcl
  obtain ⟨h1, h⟩ := zif h
  obtain rfl := z_res h
  exact g
set_option maxRecDepth 100000 in
set_option maxHeartbeats 4000000 in
theorem g_Lit_takeFour_172 {Rg : Nat → Prop} {O : zO} {q : Int32 × zM} : ∀ (n : Nat) (M : zM), zCl Rg M → f_Lit_takeFour_172 O n M = some q → zFr Rg M q.2 := by
  intro n M hcl h
  rw [f_Lit_takeFour_172] at h
  have g := zFr.rf hcl
  exact g.tr (g_Lit_takeFour_173 n (0 : Int32) M g.cl h)
set_option maxRecDepth 100000 in
set_option maxHeartbeats 4000000 in
theorem g_Lit_takeFour_0 {Rg : Nat → Prop} {O : zO} {q : Int32 × zM} : ∀ (n : Nat) (l0 : Nat) (M : zM), zCl Rg M → Rg l0 → f_Lit_takeFour_0 O n l0 M = some q → zFr Rg M q.2 := by
  intro n l0 M hcl hR_l0 h
  rw [f_Lit_takeFour_0] at h
  have g := zFr.rf hcl
  obtain ⟨h1, h⟩ := zif h
  obtain ⟨v2, e3, h⟩ := zlet_ex h
  by_cases c49 : v2 ≤ (z_i M l0 9)
  · have h := zift h c49
    have r1 : Rg (z_p M l0 0) := g.cl _ _ hR_l0
    obtain ⟨h4, h⟩ := zif h
    obtain ⟨q5, c6, h⟩ := zbd h
    have g := g.tr (G_Row_number g.cl r1 c6)
    obtain ⟨v7, e8, h⟩ := zlet_ex h
    obtain ⟨h9, h⟩ := zif h
    have r2 : Rg (z_p q5.2 l0 0) := g.cl _ _ hR_l0
    obtain ⟨h10, h⟩ := zif h
    obtain ⟨q11, c12, h⟩ := zbd h
    have g := g.tr (G_Row_number g.cl r2 c12)
    obtain ⟨v13, e14, h⟩ := zlet_ex h
    obtain ⟨h15, h⟩ := zif h
    have r3 : Rg (z_p q11.2 l0 0) := g.cl _ _ hR_l0
    obtain ⟨h16, h⟩ := zif h
    obtain ⟨q17, c18, h⟩ := zbd h
    have g := g.tr (G_Row_number g.cl r3 c18)
    obtain ⟨v19, e20, h⟩ := zlet_ex h
    obtain ⟨h21, h⟩ := zif h
    by_cases c44 : v19 ≤ (z_i q17.2 l0 9)
    · have h := zift h c44
      obtain ⟨q22, c23, h⟩ := zbd h
      have g := g.tr (G_Lit_quarter g.cl hR_l0 c23)
      obtain ⟨h24, h⟩ := zif h
      obtain ⟨q25, c26, h⟩ := zbd h
      have g := g.tr (G_Lit_takeStream g.cl hR_l0 c26)
      by_cases c39 : q25.1 = 0
      · have h := zift h c39
        exact g.tr (g_Lit_takeFour_172 n q25.2 g.cl h)
      · have h := ziff h c39
        obtain ⟨h27, h⟩ := zif h
        obtain ⟨q28, c29, h⟩ := zbd h
        have g := g.tr (G_Lit_takeStream g.cl hR_l0 c29)
        by_cases c38 : q28.1 = 0
        · have h := zift h c38
          exact g.tr (g_Lit_takeFour_172 n q28.2 g.cl h)
        · have h := ziff h c38
          obtain ⟨h30, h⟩ := zif h
          obtain ⟨q31, c32, h⟩ := zbd h
          have g := g.tr (G_Lit_takeStream g.cl hR_l0 c32)
          by_cases c37 : q31.1 = 0
          · have h := zift h c37
            exact g.tr (g_Lit_takeFour_172 n q31.2 g.cl h)
          · have h := ziff h c37
            obtain ⟨h33, h⟩ := zif h
            obtain ⟨q34, c35, h⟩ := zbd h
            have g := g.tr (G_Lit_takeStream g.cl hR_l0 c35)
            by_cases c36 : q34.1 = 0
            · have h := zift h c36
              exact g.tr (g_Lit_takeFour_172 n q34.2 g.cl h)
            · have h := ziff h c36
              exact g.tr (g_Lit_takeFour_173 n (1 : Int32) q34.2 g.cl h)
    · have h := ziff h c44
      have r4 : Rg (z_p q17.2 l0 1) := g.cl _ _ hR_l0
      obtain ⟨h40, h⟩ := zif h
      obtain ⟨q41, c42, h⟩ := zbd h
      have g := g.tr (G_Rep_fail g.cl r4 c42)
      obtain ⟨h43, h⟩ := zif h
      obtain rfl := z_res h
      exact g
  · have h := ziff h c49
    have r5 : Rg (z_p M l0 1) := g.cl _ _ hR_l0
    obtain ⟨h45, h⟩ := zif h
    obtain ⟨q46, c47, h⟩ := zbd h
    have g := g.tr (G_Rep_fail g.cl r5 c47)
    obtain ⟨h48, h⟩ := zif h
    obtain rfl := z_res h
    exact g
theorem G_Lit_takeFour {Rg : Nat → Prop} {O : zO} {n : Nat} {l0 : Nat} {M : zM} {q : Int32 × zM} (hcl : zCl Rg M) (hR_l0 : Rg l0) (h : F_Lit_takeFour O n l0 M = some q) : zFr Rg M q.2 := g_Lit_takeFour_0 n l0 M hcl hR_l0 h

set_option maxRecDepth 100000 in
set_option maxHeartbeats 4000000 in
theorem g_Lit_take_125 {Rg : Nat → Prop} {O : zO} {q : Int32 × zM} : ∀ (n : Nat) (l0 : Nat) (l1 : Int32) (M : zM), zCl Rg M → Rg l0 → f_Lit_take_125 O n l0 l1 M = some q → zFr Rg M q.2 := by
  intro n l0 l1 M hcl hR_l0 h
  rw [f_Lit_take_125] at h
  have g := zFr.rf hcl
  obtain ⟨h1, h⟩ := zif h
  have r5 : Rg (z_p M l0 1) := g.cl _ _ hR_l0
  obtain ⟨h2, h⟩ := zif h
  obtain ⟨q3, c4, h⟩ := zbd h
  have g := g.tr (G_Rep_fail g.cl r5 c4)
  obtain ⟨h5, h⟩ := zif h
  obtain rfl := z_res h
  exact g
set_option maxRecDepth 100000 in
set_option maxHeartbeats 4000000 in
theorem g_Lit_take_293 {Rg : Nat → Prop} {O : zO} {q : Int32 × zM} : ∀ (n : Nat) (s0 : Int32) (M : zM), zCl Rg M → f_Lit_take_293 O n s0 M = some q → zFr Rg M q.2 := by
  intro n s0 M hcl h
  rw [f_Lit_take_293] at h
  have g := zFr.rf hcl
  obtain ⟨h1, h⟩ := zif h
  obtain rfl := z_res h
  exact g
set_option maxRecDepth 100000 in
set_option maxHeartbeats 4000000 in
theorem g_Lit_take_263 {Rg : Nat → Prop} {O : zO} {q : Int32 × zM} : ∀ (n : Nat) (l0 : Nat) (M : zM), zCl Rg M → Rg l0 → f_Lit_take_263 O n l0 M = some q → zFr Rg M q.2 := by
  intro n l0 M hcl hR_l0 h
  rw [f_Lit_take_263] at h
  have g := zFr.rf hcl
  obtain ⟨h1, h⟩ := zif h
  by_cases c6 : (z_i M l0 11) = 0
  · have h := zift h c6
    obtain ⟨q4, c5, h⟩ := zbd h
    have g := g.tr (G_Lit_takeStream g.cl hR_l0 c5)
    exact g.tr (g_Lit_take_293 n q4.1 q4.2 g.cl h)
  · have h := ziff h c6
    obtain ⟨q2, c3, h⟩ := zbd h
    have g := g.tr (G_Lit_takeFour g.cl hR_l0 c3)
    exact g.tr (g_Lit_take_293 n q2.1 q2.2 g.cl h)
set_option maxRecDepth 100000 in
set_option maxHeartbeats 4000000 in
theorem g_Lit_take_162 {Rg : Nat → Prop} {O : zO} {q : Int32 × zM} : ∀ (n : Nat) (l0 : Nat) (l2 : Int32) (M : zM), zCl Rg M → Rg l0 → f_Lit_take_162 O n l0 l2 M = some q → zFr Rg M q.2 := by
  intro n l0 l2 M hcl hR_l0 h
  rw [f_Lit_take_162] at h
  have g := zFr.rf hcl
  obtain ⟨h1, h⟩ := zif h
  by_cases c29 : (z_i M l0 9) ≤ l2
  · have h := zift h c29
    by_cases c24 : (2 : Int32) ≤ (z_i M l0 10)
    · have h := zift h c24
      by_cases c21 : (z_i M l0 10) = (2 : Int32)
      · have h := zift h c21
        have r7 : Rg (z_p M l0 3) := g.cl _ _ hR_l0
        have r8 : Rg (z_p M l0 0) := g.cl _ _ hR_l0
        obtain ⟨h2, h⟩ := zif h
        obtain ⟨q3, c4, h⟩ := zbd h
        have g := g.tr (G_Codes_tell g.cl r7 r8 c4)
        by_cases c20 : q3.1 = (-1 : Int32)
        · have h := zift h c20
          obtain ⟨h15, h⟩ := zif h
          have r10 : Rg (z_p q3.2 l0 1) := g.cl _ _ hR_l0
          obtain ⟨h16, h⟩ := zif h
          obtain ⟨q17, c18, h⟩ := zbd h
          have g := g.tr (G_Rep_fail g.cl r10 c18)
          obtain ⟨h19, h⟩ := zif h
          obtain rfl := z_res h
          exact g
        · have h := ziff h c20
          obtain ⟨h5, h⟩ := zif h
          have r9 : Rg (z_p q3.2 l0 3) := g.cl _ _ hR_l0
          obtain ⟨M6, e7, h⟩ := zlet_ex h
          have g := g.p hR_l0 r9 (by rw [h5]; rfl) e7
          have h8 := k_p e7 h5
          obtain ⟨M9, e10, h⟩ := zlet_ex h
          have g := g.i hR_l0 e10
          have h11 := k_i e10 h8
          obtain ⟨M12, e13, h⟩ := zlet_ex h
          have g := g.i hR_l0 e13
          have h14 := k_i e13 h11
          exact g.tr (g_Lit_take_263 n l0 M12 g.cl hR_l0 h)
      · have h := ziff h c21
        exact g.tr (g_Lit_take_263 n l0 M g.cl hR_l0 h)
    · have h := ziff h c24
      obtain ⟨q22, c23, h⟩ := zbd h
      have g := g.tr (G_Lit_takePlain g.cl hR_l0 c23)
      obtain rfl := z_res h
      exact g
  · have h := ziff h c29
    have r11 : Rg (z_p M l0 1) := g.cl _ _ hR_l0
    obtain ⟨h25, h⟩ := zif h
    obtain ⟨q26, c27, h⟩ := zbd h
    have g := g.tr (G_Rep_fail g.cl r11 c27)
    obtain ⟨h28, h⟩ := zif h
    obtain rfl := z_res h
    exact g
set_option maxRecDepth 100000 in
set_option maxHeartbeats 4000000 in
theorem g_Lit_take_136 {Rg : Nat → Prop} {O : zO} {q : Int32 × zM} : ∀ (n : Nat) (l0 : Nat) (l1 : Int32) (l2 : Int32) (M : zM), zCl Rg M → Rg l0 → f_Lit_take_136 O n l0 l1 l2 M = some q → zFr Rg M q.2 := by
  intro n l0 l1 l2 M hcl hR_l0 h
  rw [f_Lit_take_136] at h
  have g := zFr.rf hcl
  obtain ⟨h1, h⟩ := zif h
  by_cases c7 : (z_i M l0 10) = (3 : Int32)
  · have h := zift h c7
    by_cases c6 : (z_i M l0 6) = 0
    · have h := zift h c6
      have r6 : Rg (z_p M l0 1) := g.cl _ _ hR_l0
      obtain ⟨h2, h⟩ := zif h
      obtain ⟨q3, c4, h⟩ := zbd h
      have g := g.tr (G_Rep_fail g.cl r6 c4)
      obtain ⟨h5, h⟩ := zif h
      obtain rfl := z_res h
      exact g
    · have h := ziff h c6
      exact g.tr (g_Lit_take_162 n l0 l2 M g.cl hR_l0 h)
  · have h := ziff h c7
    exact g.tr (g_Lit_take_162 n l0 l2 M g.cl hR_l0 h)
set_option maxRecDepth 100000 in
set_option maxHeartbeats 4000000 in
theorem g_Lit_take_89 {Rg : Nat → Prop} {O : zO} {q : Int32 × zM} : ∀ (n : Nat) (l0 : Nat) (l1 : Int32) (l2 : Int32) (l3 : Int32) (M : zM), zCl Rg M → Rg l0 → f_Lit_take_89 O n l0 l1 l2 l3 M = some q → zFr Rg M q.2 := by
  intro n l0 l1 l2 l3 M hcl hR_l0 h
  rw [f_Lit_take_89] at h
  have g := zFr.rf hcl
  obtain ⟨h1, h⟩ := zif h
  by_cases c7 : l3 < (z_i M l0 7)
  · have h := zift h c7
    exact g.tr (g_Lit_take_125 n l0 l1 M g.cl hR_l0 h)
  · have h := ziff h c7
    by_cases c6 : (z_i M l0 10) ≤ (1 : Int32)
    · have h := zift h c6
      exact g.tr (g_Lit_take_136 n l0 l1 l2 M g.cl hR_l0 h)
    · have h := ziff h c6
      by_cases c5 : (z_i M l0 11) ≤ 0
      · have h := zift h c5
        exact g.tr (g_Lit_take_136 n l0 l1 l2 M g.cl hR_l0 h)
      · have h := ziff h c5
        obtain ⟨q2, c3, h⟩ := zbd h
        have g := g.tr (G_Lit_quarter g.cl hR_l0 c3)
        by_cases c4 : ((3 : Int32) * q2.1) ≤ (z_i M l0 7)
        · have h := zift h c4
          exact g.tr (g_Lit_take_136 n l0 l1 l2 q2.2 g.cl hR_l0 h)
        · have h := ziff h c4
          exact g.tr (g_Lit_take_125 n l0 l1 q2.2 g.cl hR_l0 h)
set_option maxRecDepth 100000 in
set_option maxHeartbeats 4000000 in
theorem g_Lit_take_87 {Rg : Nat → Prop} {O : zO} {q : Int32 × zM} : ∀ (n : Nat) (M : zM), zCl Rg M → f_Lit_take_87 O n M = some q → zFr Rg M q.2 := by
  intro n M hcl h
  rw [f_Lit_take_87] at h
  have g := zFr.rf hcl
  obtain rfl := z_res h
  exact g
set_option maxRecDepth 100000 in
set_option maxHeartbeats 4000000 in
theorem g_Lit_take_0 {Rg : Nat → Prop} {O : zO} {q : Int32 × zM} : ∀ (n : Nat) (l0 : Nat) (l1 : Int32) (l2 : Int32) (l3 : Int32) (M : zM), zCl Rg M → Rg l0 → f_Lit_take_0 O n l0 l1 l2 l3 M = some q → zFr Rg M q.2 := by
  intro n l0 l1 l2 l3 M hcl hR_l0 h
  rw [f_Lit_take_0] at h
  have g := zFr.rf hcl
  obtain ⟨h1, h⟩ := zif h
  have r1 : Rg (z_p M l0 4) := g.cl _ _ hR_l0
  obtain ⟨h2, h⟩ := zif h
  obtain ⟨q3, c4, h⟩ := zbd h
  have g := g.tr (G_Row_empty g.cl r1 c4)
  obtain ⟨h5, h⟩ := zif h
  obtain ⟨M6, e7, h⟩ := zlet_ex h
  have g := g.i hR_l0 e7
  have h8 := k_i e7 h5
  by_cases c34 : l1 < l2
  · have h := zift h c34
    have r2 : Rg (z_p M6 l0 0) := g.cl _ _ hR_l0
    obtain ⟨h9, h⟩ := zif h
    obtain ⟨q10, c11, h⟩ := zbd h
    have g := g.tr (G_Row_at g.cl r2 c11)
    obtain ⟨h12, h⟩ := zif h
    obtain ⟨M13, e14, h⟩ := zlet_ex h
    have g := g.i hR_l0 e14
    have h15 := k_i e14 h12
    have r3 : Rg (z_p M13 l0 0) := g.cl _ _ hR_l0
    obtain ⟨h16, h⟩ := zif h
    obtain ⟨q17, c18, h⟩ := zbd h
    have g := g.tr (G_Row_at g.cl r3 c18)
    obtain ⟨h19, h⟩ := zif h
    obtain ⟨M20, e21, h⟩ := zlet_ex h
    have g := g.i hR_l0 e21
    have h22 := k_i e21 h19
    by_cases c29 : (2 : Int32) ≤ (z_i M20 l0 10)
    · have h := zift h c29
      obtain ⟨q23, c24, h⟩ := zbd h
      have g := g.tr (G_Lit_codedHead g.cl hR_l0 c24)
      by_cases c25 : q23.1 = 0
      · have h := zift h c25
        exact g.tr (g_Lit_take_87 n q23.2 g.cl h)
      · have h := ziff h c25
        exact g.tr (g_Lit_take_89 n l0 l1 l2 l3 q23.2 g.cl hR_l0 h)
    · have h := ziff h c29
      obtain ⟨q26, c27, h⟩ := zbd h
      have g := g.tr (G_Lit_plainHead g.cl hR_l0 c27)
      by_cases c28 : q26.1 = 0
      · have h := zift h c28
        exact g.tr (g_Lit_take_87 n q26.2 g.cl h)
      · have h := ziff h c28
        exact g.tr (g_Lit_take_89 n l0 l1 l2 l3 q26.2 g.cl hR_l0 h)
  · have h := ziff h c34
    have r4 : Rg (z_p M6 l0 1) := g.cl _ _ hR_l0
    obtain ⟨h30, h⟩ := zif h
    obtain ⟨q31, c32, h⟩ := zbd h
    have g := g.tr (G_Rep_fail g.cl r4 c32)
    obtain ⟨h33, h⟩ := zif h
    obtain rfl := z_res h
    exact g
theorem G_Lit_take {Rg : Nat → Prop} {O : zO} {n : Nat} {l0 : Nat} {l1 : Int32} {l2 : Int32} {l3 : Int32} {M : zM} {q : Int32 × zM} (hcl : zCl Rg M) (hR_l0 : Rg l0) (h : F_Lit_take O n l0 l1 l2 l3 M = some q) : zFr Rg M q.2 := g_Lit_take_0 n l0 l1 l2 l3 M hcl hR_l0 h

set_option maxRecDepth 100000 in
set_option maxHeartbeats 4000000 in
theorem g_Lit_left_0 {Rg : Nat → Prop} {O : zO} {q : Int32 × zM} : ∀ (n : Nat) (l0 : Nat) (M : zM), zCl Rg M → Rg l0 → f_Lit_left_0 O n l0 M = some q → zFr Rg M q.2 := by
  intro n l0 M hcl hR_l0 h
  rw [f_Lit_left_0] at h
  have g := zFr.rf hcl
  obtain ⟨h1, h⟩ := zif h
  obtain rfl := z_res h
  exact g
theorem G_Lit_left {Rg : Nat → Prop} {O : zO} {n : Nat} {l0 : Nat} {M : zM} {q : Int32 × zM} (hcl : zCl Rg M) (hR_l0 : Rg l0) (h : F_Lit_left O n l0 M = some q) : zFr Rg M q.2 := g_Lit_left_0 n l0 M hcl hR_l0 h

set_option maxRecDepth 100000 in
set_option maxHeartbeats 4000000 in
theorem g_Content_overBlock_26 {Rg : Nat → Prop} {O : zO} {q : Int32 × zM} : ∀ (n : Nat) (s0 : Int32) (M : zM), zCl Rg M → f_Content_overBlock_26 O n s0 M = some q → zFr Rg M q.2 := by
  intro n s0 M hcl h
  rw [f_Content_overBlock_26] at h
  have g := zFr.rf hcl
  obtain ⟨h1, h⟩ := zif h
  obtain rfl := z_res h
  exact g
set_option maxRecDepth 100000 in
set_option maxHeartbeats 4000000 in
theorem g_Content_overBlock_0 {Rg : Nat → Prop} {O : zO} {q : Int32 × zM} : ∀ (n : Nat) (l0 : Nat) (l1 : Int32) (M : zM), zCl Rg M → Rg l0 → f_Content_overBlock_0 O n l0 l1 M = some q → zFr Rg M q.2 := by
  intro n l0 l1 M hcl hR_l0 h
  rw [f_Content_overBlock_0] at h
  have g := zFr.rf hcl
  obtain ⟨h1, h⟩ := zif h
  obtain ⟨q2, c3, h⟩ := zbd h
  have g := g.tr (G_Content_mostOfBlock g.cl hR_l0 c3)
  obtain ⟨h4, h⟩ := zif h
  have r1 : Rg (z_p q2.2 l0 0) := g.cl _ _ hR_l0
  obtain ⟨h5, h⟩ := zif h
  by_cases c6 : l1 ≤ (q2.1 - ((z_i q2.2 (z_p q2.2 l0 0) 1) - (z_i q2.2 l0 4)))
  · have h := zift h c6
    exact g.tr (g_Content_overBlock_26 n (0 : Int32) q2.2 g.cl h)
  · have h := ziff h c6
    exact g.tr (g_Content_overBlock_26 n (1 : Int32) q2.2 g.cl h)
theorem G_Content_overBlock {Rg : Nat → Prop} {O : zO} {n : Nat} {l0 : Nat} {l1 : Int32} {M : zM} {q : Int32 × zM} (hcl : zCl Rg M) (hR_l0 : Rg l0) (h : F_Content_overBlock O n l0 l1 M = some q) : zFr Rg M q.2 := g_Content_overBlock_0 n l0 l1 M hcl hR_l0 h

set_option maxRecDepth 100000 in
set_option maxHeartbeats 4000000 in
theorem g_Lit_moveTo_0 {Rg : Nat → Prop} {O : zO} {q : Unit × zM} : ∀ (n : Nat) (l0 : Nat) (l1 : Nat) (l2 : Int32) (M : zM), zCl Rg M → Rg l0 → Rg l1 → f_Lit_moveTo_0 O n l0 l1 l2 M = some q → zFr Rg M q.2 := by
  intro n l0 l1 l2 M hcl hR_l0 hR_l1 h
  rw [f_Lit_moveTo_0] at h
  have g := zFr.rf hcl
  obtain ⟨h1, h⟩ := zif h
  have r1 : Rg (z_p M l0 4) := g.cl _ _ hR_l0
  obtain ⟨h2, h⟩ := zif h
  obtain ⟨q3, c4, h⟩ := zbd h
  have g := g.tr (G_Row_putPart g.cl hR_l1 r1 c4)
  obtain ⟨h5, h⟩ := zif h
  obtain ⟨M6, e7, h⟩ := zlet_ex h
  have g := g.i hR_l0 e7
  have h8 := k_i e7 h5
  obtain rfl := z_res h
  exact g
theorem G_Lit_moveTo {Rg : Nat → Prop} {O : zO} {n : Nat} {l0 : Nat} {l1 : Nat} {l2 : Int32} {M : zM} {q : Unit × zM} (hcl : zCl Rg M) (hR_l0 : Rg l0) (hR_l1 : Rg l1) (h : F_Lit_moveTo O n l0 l1 l2 M = some q) : zFr Rg M q.2 := g_Lit_moveTo_0 n l0 l1 l2 M hcl hR_l0 hR_l1 h

set_option maxRecDepth 100000 in
set_option maxHeartbeats 4000000 in
theorem g_Seq_takeRest_0 {Rg : Nat → Prop} {O : zO} {q : Int32 × zM} : ∀ (n : Nat) (l0 : Nat) (l1 : Int32) (M : zM), zCl Rg M → Rg l0 → f_Seq_takeRest_0 O n l0 l1 M = some q → zFr Rg M q.2 := by
  intro n l0 l1 M hcl hR_l0 h
  rw [f_Seq_takeRest_0] at h
  have g := zFr.rf hcl
  obtain ⟨h1, h⟩ := zif h
  have r1 : Rg (z_p M l0 2) := g.cl _ _ hR_l0
  have r2 : Rg (z_p M l0 3) := g.cl _ _ hR_l0
  obtain ⟨h2, h⟩ := zif h
  obtain ⟨q3, c4, h⟩ := zbd h
  have g := g.tr (G_Lit_left g.cl r2 c4)
  obtain ⟨h5, h⟩ := zif h
  obtain ⟨q6, c7, h⟩ := zbd h
  have g := g.tr (G_Content_overBlock g.cl r1 c7)
  by_cases c34 : q6.1 = 0
  · have h := zift h c34
    obtain ⟨h8, h⟩ := zif h
    have r3 : Rg (z_p q6.2 l0 2) := g.cl _ _ hR_l0
    have r4 : Rg (z_p q6.2 l0 3) := g.cl _ _ hR_l0
    obtain ⟨h9, h⟩ := zif h
    obtain ⟨q10, c11, h⟩ := zbd h
    have g := g.tr (G_Lit_left g.cl r4 c11)
    obtain ⟨h12, h⟩ := zif h
    obtain ⟨q13, c14, h⟩ := zbd h
    have g := g.tr (G_Content_overMost g.cl r3 c14)
    by_cases c28 : q13.1 = 0
    · have h := zift h c28
      obtain ⟨h15, h⟩ := zif h
      have r5 : Rg (z_p q13.2 l0 3) := g.cl _ _ hR_l0
      have r6 : Rg (z_p q13.2 l0 2) := g.cl _ _ hR_l0
      obtain ⟨h16, h⟩ := zif h
      have r7 : Rg (z_p q13.2 (z_p q13.2 l0 2) 0) := g.cl _ _ r6
      have r8 : Rg (z_p q13.2 l0 3) := g.cl _ _ hR_l0
      obtain ⟨h17, h⟩ := zif h
      obtain ⟨q18, c19, h⟩ := zbd h
      have g := g.tr (G_Lit_left g.cl r8 c19)
      obtain ⟨h20, h⟩ := zif h
      obtain ⟨q21, c22, h⟩ := zbd h
      have g := g.tr (G_Lit_moveTo g.cl r8 r7 c22)
      obtain rfl := z_res h
      exact g
    · have h := ziff h c28
      obtain ⟨h23, h⟩ := zif h
      have r9 : Rg (z_p q13.2 l0 1) := g.cl _ _ hR_l0
      obtain ⟨h24, h⟩ := zif h
      obtain ⟨q25, c26, h⟩ := zbd h
      have g := g.tr (G_Rep_fail g.cl r9 c26)
      obtain ⟨h27, h⟩ := zif h
      obtain rfl := z_res h
      exact g
  · have h := ziff h c34
    obtain ⟨h29, h⟩ := zif h
    have r10 : Rg (z_p q6.2 l0 1) := g.cl _ _ hR_l0
    obtain ⟨h30, h⟩ := zif h
    obtain ⟨q31, c32, h⟩ := zbd h
    have g := g.tr (G_Rep_fail g.cl r10 c32)
    obtain ⟨h33, h⟩ := zif h
    obtain rfl := z_res h
    exact g
theorem G_Seq_takeRest {Rg : Nat → Prop} {O : zO} {n : Nat} {l0 : Nat} {l1 : Int32} {M : zM} {q : Int32 × zM} (hcl : zCl Rg M) (hR_l0 : Rg l0) (h : F_Seq_takeRest O n l0 l1 M = some q) : zFr Rg M q.2 := g_Seq_takeRest_0 n l0 l1 M hcl hR_l0 h

set_option maxRecDepth 100000 in
set_option maxHeartbeats 4000000 in
theorem g_Share_setSingle_0 {Rg : Nat → Prop} {O : zO} {q : Unit × zM} : ∀ (n : Nat) (l0 : Nat) (l1 : Int32) (M : zM), zCl Rg M → Rg l0 → f_Share_setSingle_0 O n l0 l1 M = some q → zFr Rg M q.2 := by
  intro n l0 l1 M hcl hR_l0 h
  rw [f_Share_setSingle_0] at h
  have g := zFr.rf hcl
  obtain ⟨h1, h⟩ := zif h
  obtain ⟨M2, e3, h⟩ := zlet_ex h
  have g := g.i hR_l0 e3
  have h4 := k_i e3 h1
  have r1 : Rg (z_p M2 l0 4) := g.cl _ _ hR_l0
  obtain ⟨h5, h⟩ := zif h
  obtain ⟨h6, h⟩ := zif h
  obtain ⟨M7, e8, h⟩ := zlet_ex h
  have g := g.i r1 e8
  have h9 := k_i e8 h4
  have h10 := k_i e8 h5
  have r2 : Rg (z_p M7 l0 5) := g.cl _ _ hR_l0
  obtain ⟨h11, h⟩ := zif h
  obtain ⟨h12, h⟩ := zif h
  obtain ⟨M13, e14, h⟩ := zlet_ex h
  have g := g.i r2 e14
  have h15 := k_i e14 h9
  have h16 := k_i e14 h10
  have h17 := k_i e14 h11
  have r3 : Rg (z_p M13 l0 6) := g.cl _ _ hR_l0
  obtain ⟨h18, h⟩ := zif h
  obtain ⟨h19, h⟩ := zif h
  obtain ⟨M20, e21, h⟩ := zlet_ex h
  have g := g.i r3 e21
  have h22 := k_i e21 h15
  have h23 := k_i e21 h16
  have h24 := k_i e21 h17
  have h25 := k_i e21 h18
  obtain rfl := z_res h
  exact g
theorem G_Share_setSingle {Rg : Nat → Prop} {O : zO} {n : Nat} {l0 : Nat} {l1 : Int32} {M : zM} {q : Unit × zM} (hcl : zCl Rg M) (hR_l0 : Rg l0) (h : F_Share_setSingle O n l0 l1 M = some q) : zFr Rg M q.2 := g_Share_setSingle_0 n l0 l1 M hcl hR_l0 h

set_option maxRecDepth 100000 in
set_option maxHeartbeats 4000000 in
theorem g_Seq_takeTable_200 {Rg : Nat → Prop} {O : zO} {q : Int32 × zM} : ∀ (n : Nat) (l6 : Int32) (M : zM), zCl Rg M → f_Seq_takeTable_200 O n l6 M = some q → zFr Rg M q.2 := by
  intro n l6 M hcl h
  rw [f_Seq_takeTable_200] at h
  have g := zFr.rf hcl
  obtain rfl := z_res h
  exact g
set_option maxRecDepth 100000 in
set_option maxHeartbeats 4000000 in
theorem g_Seq_takeTable_176 {Rg : Nat → Prop} {O : zO} {q : Int32 × zM} : ∀ (n : Nat) (l0 : Nat) (l1 : Int32) (l2 : Int32) (l6 : Int32) (M : zM), zCl Rg M → Rg l0 → f_Seq_takeTable_176 O n l0 l1 l2 l6 M = some q → zFr Rg M q.2 := by
  intro n l0 l1 l2 l6 M hcl hR_l0 h
  rw [f_Seq_takeTable_176] at h
  have g := zFr.rf hcl
  obtain ⟨h1, h⟩ := zif h
  have r14 : Rg (z_p M l0 9) := g.cl _ _ hR_l0
  obtain ⟨h2, h⟩ := zif h
  obtain ⟨h3, h⟩ := zif h
  obtain ⟨M4, e5, h⟩ := zlet_ex h
  have g := g.i r14 e5
  have h6 := k_i e5 h1
  have h7 := k_i e5 h2
  by_cases c11 : l6 = (-1 : Int32)
  · have h := zift h c11
    have r15 : Rg (z_p M4 l0 1) := g.cl _ _ hR_l0
    obtain ⟨h8, h⟩ := zif h
    obtain ⟨q9, c10, h⟩ := zbd h
    have g := g.tr (G_Rep_fail g.cl r15 c10)
    exact g.tr (g_Seq_takeTable_200 n l6 q9.2 g.cl h)
  · have h := ziff h c11
    exact g.tr (g_Seq_takeTable_200 n l6 M4 g.cl h)
set_option maxRecDepth 100000 in
set_option maxHeartbeats 4000000 in
theorem g_Seq_takeTable_91 {Rg : Nat → Prop} {O : zO} {q : Int32 × zM} : ∀ (n : Nat) (l0 : Nat) (l1 : Int32) (l2 : Int32) (l3 : Int32) (s0 : Int32) (M : zM), zCl Rg M → Rg l0 → f_Seq_takeTable_91 O n l0 l1 l2 l3 s0 M = some q → zFr Rg M q.2 := by
  intro n l0 l1 l2 l3 s0 M hcl hR_l0 h
  rw [f_Seq_takeTable_91] at h
  have g := zFr.rf hcl
  obtain ⟨h1, h⟩ := zif h
  have r16 : Rg (z_p M l0 7) := g.cl _ _ hR_l0
  obtain ⟨h2, h⟩ := zif h
  obtain ⟨h3, h⟩ := zif h
  have r17 : Rg (z_p M (z_p M l0 7) l1.toNatClampNeg) := g.cl _ _ r16
  have r18 : Rg (z_p M l0 0) := g.cl _ _ hR_l0
  obtain ⟨h4, h⟩ := zif h
  obtain ⟨q5, c6, h⟩ := zbd h
  have g := g.tr (G_Row_at g.cl r18 c6)
  obtain ⟨h7, h⟩ := zif h
  obtain ⟨q8, c9, h⟩ := zbd h
  have g := g.tr (G_Share_setSingle g.cl r17 c9)
  obtain ⟨h10, h⟩ := zif h
  have r19 : Rg (z_p q8.2 l0 8) := g.cl _ _ hR_l0
  have r20 : Rg (z_p q8.2 l0 7) := g.cl _ _ hR_l0
  obtain ⟨h11, h⟩ := zif h
  obtain ⟨h12, h⟩ := zif h
  have r21 : Rg (z_p q8.2 (z_p q8.2 l0 7) l1.toNatClampNeg) := g.cl _ _ r20
  obtain ⟨h13, h⟩ := zif h
  obtain ⟨h14, h⟩ := zif h
  obtain ⟨h15, h⟩ := zif h
  obtain ⟨M16, e17, h⟩ := zlet_ex h
  have g := g.p r19 r21 (by rw [h13]; rfl) e17
  have h18 := k_p e17 h10
  have h19 := k_p e17 h11
  have h20 := k_p e17 h13
  have h21 := k_p e17 h15
  exact g.tr (g_Seq_takeTable_176 n l0 l1 l2 s0 M16 g.cl hR_l0 h)
set_option maxRecDepth 100000 in
set_option maxHeartbeats 4000000 in
theorem g_Seq_takeTable_0 {Rg : Nat → Prop} {O : zO} {q : Int32 × zM} : ∀ (n : Nat) (l0 : Nat) (l1 : Int32) (l2 : Int32) (l3 : Int32) (l4 : Int32) (M : zM), zCl Rg M → Rg l0 → f_Seq_takeTable_0 O n l0 l1 l2 l3 l4 M = some q → zFr Rg M q.2 := by
  intro n l0 l1 l2 l3 l4 M hcl hR_l0 h
  rw [f_Seq_takeTable_0] at h
  have g := zFr.rf hcl
  obtain ⟨h1, h⟩ := zif h
  have r1 : Rg (z_p M l0 0) := g.cl _ _ hR_l0
  obtain ⟨h2, h⟩ := zif h
  obtain ⟨q3, c4, h⟩ := zbd h
  have g := g.tr (G_Row_at g.cl r1 c4)
  obtain ⟨v5, e6, h⟩ := zlet_ex h
  by_cases c55 : v5 = 0
  · have h := zift h c55
    obtain ⟨h43, h⟩ := zif h
    have r11 : Rg (z_p q3.2 l0 8) := g.cl _ _ hR_l0
    have r12 : Rg (z_p q3.2 l0 6) := g.cl _ _ hR_l0
    obtain ⟨h44, h⟩ := zif h
    obtain ⟨h45, h⟩ := zif h
    have r13 : Rg (z_p q3.2 (z_p q3.2 l0 6) l1.toNatClampNeg) := g.cl _ _ r12
    obtain ⟨h46, h⟩ := zif h
    obtain ⟨h47, h⟩ := zif h
    obtain ⟨h48, h⟩ := zif h
    obtain ⟨M49, e50, h⟩ := zlet_ex h
    have g := g.p r11 r13 (by rw [h46]; rfl) e50
    have h51 := k_p e50 h43
    have h52 := k_p e50 h44
    have h53 := k_p e50 h46
    have h54 := k_p e50 h48
    exact g.tr (g_Seq_takeTable_176 n l0 l1 l2 l3 M49 g.cl hR_l0 h)
  · have h := ziff h c55
    by_cases c42 : v5 = (1 : Int32)
    · have h := zift h c42
      by_cases c41 : l3 < l4
      · have h := zift h c41
        obtain ⟨h30, h⟩ := zif h
        have r9 : Rg (z_p q3.2 l0 0) := g.cl _ _ hR_l0
        obtain ⟨h31, h⟩ := zif h
        obtain ⟨q32, c33, h⟩ := zbd h
        have g := g.tr (G_Row_at g.cl r9 c33)
        obtain ⟨h34, h⟩ := zif h
        obtain ⟨h35, h⟩ := zif h
        by_cases c36 : q32.1 ≤ (O.2.2.2 (O.1 1) l1.toNatClampNeg)
        · have h := zift h c36
          exact g.tr (g_Seq_takeTable_91 n l0 l1 l2 l3 (l3 + (1 : Int32)) q32.2 g.cl hR_l0 h)
        · have h := ziff h c36
          exact g.tr (g_Seq_takeTable_91 n l0 l1 l2 l3 (-1 : Int32) q32.2 g.cl hR_l0 h)
      · have h := ziff h c41
        obtain ⟨h37, h⟩ := zif h
        have r10 : Rg (z_p q3.2 l0 1) := g.cl _ _ hR_l0
        obtain ⟨h38, h⟩ := zif h
        obtain ⟨q39, c40, h⟩ := zbd h
        have g := g.tr (G_Rep_fail g.cl r10 c40)
        obtain rfl := z_res h
        exact g
    · have h := ziff h c42
      by_cases c29 : v5 = (2 : Int32)
      · have h := zift h c29
        obtain ⟨h11, h⟩ := zif h
        have r3 : Rg (z_p q3.2 l0 7) := g.cl _ _ hR_l0
        obtain ⟨h12, h⟩ := zif h
        obtain ⟨h13, h⟩ := zif h
        have r4 : Rg (z_p q3.2 (z_p q3.2 l0 7) l1.toNatClampNeg) := g.cl _ _ r3
        have r5 : Rg (z_p q3.2 l0 0) := g.cl _ _ hR_l0
        obtain ⟨h14, h⟩ := zif h
        obtain ⟨q15, c16, h⟩ := zbd h
        have g := g.tr (G_Share_tell g.cl r4 r5 c16)
        obtain ⟨h17, h⟩ := zif h
        have r6 : Rg (z_p q15.2 l0 8) := g.cl _ _ hR_l0
        have r7 : Rg (z_p q15.2 l0 7) := g.cl _ _ hR_l0
        obtain ⟨h18, h⟩ := zif h
        obtain ⟨h19, h⟩ := zif h
        have r8 : Rg (z_p q15.2 (z_p q15.2 l0 7) l1.toNatClampNeg) := g.cl _ _ r7
        obtain ⟨h20, h⟩ := zif h
        obtain ⟨h21, h⟩ := zif h
        obtain ⟨h22, h⟩ := zif h
        obtain ⟨M23, e24, h⟩ := zlet_ex h
        have g := g.p r6 r8 (by rw [h20]; rfl) e24
        have h25 := k_p e24 h17
        have h26 := k_p e24 h18
        have h27 := k_p e24 h20
        have h28 := k_p e24 h22
        exact g.tr (g_Seq_takeTable_176 n l0 l1 l2 q15.1 M23 g.cl hR_l0 h)
      · have h := ziff h c29
        obtain ⟨h7, h⟩ := zif h
        have r2 : Rg (z_p q3.2 l0 9) := g.cl _ _ hR_l0
        obtain ⟨h8, h⟩ := zif h
        obtain ⟨h9, h⟩ := zif h
        by_cases c10 : (z_i q3.2 (z_p q3.2 l0 9) l1.toNatClampNeg) = 0
        · have h := zift h c10
          exact g.tr (g_Seq_takeTable_176 n l0 l1 l2 (-1 : Int32) q3.2 g.cl hR_l0 h)
        · have h := ziff h c10
          exact g.tr (g_Seq_takeTable_176 n l0 l1 l2 l3 q3.2 g.cl hR_l0 h)
theorem G_Seq_takeTable {Rg : Nat → Prop} {O : zO} {n : Nat} {l0 : Nat} {l1 : Int32} {l2 : Int32} {l3 : Int32} {l4 : Int32} {M : zM} {q : Int32 × zM} (hcl : zCl Rg M) (hR_l0 : Rg l0) (h : F_Seq_takeTable O n l0 l1 l2 l3 l4 M = some q) : zFr Rg M q.2 := g_Seq_takeTable_0 n l0 l1 l2 l3 l4 M hcl hR_l0 h

set_option maxRecDepth 100000 in
set_option maxHeartbeats 4000000 in
theorem g_Seq_symbolOf_34 {Rg : Nat → Prop} {O : zO} {q : Int32 × zM} : ∀ (n : Nat) (s0 : Int32) (M : zM), zCl Rg M → f_Seq_symbolOf_34 O n s0 M = some q → zFr Rg M q.2 := by
  intro n s0 M hcl h
  rw [f_Seq_symbolOf_34] at h
  have g := zFr.rf hcl
  obtain rfl := z_res h
  exact g
set_option maxRecDepth 100000 in
set_option maxHeartbeats 4000000 in
theorem g_Seq_symbolOf_33 {Rg : Nat → Prop} {O : zO} {q : Int32 × zM} : ∀ (n : Nat) (M : zM), zCl Rg M → f_Seq_symbolOf_33 O n M = some q → zFr Rg M q.2 := by
  intro n M hcl h
  rw [f_Seq_symbolOf_33] at h
  have g := zFr.rf hcl
  exact g.tr (g_Seq_symbolOf_34 n (0 : Int32) M g.cl h)
set_option maxRecDepth 100000 in
set_option maxHeartbeats 4000000 in
theorem g_Seq_symbolOf_0 {Rg : Nat → Prop} {O : zO} {q : Int32 × zM} : ∀ (n : Nat) (l0 : Nat) (l1 : Int32) (M : zM), zCl Rg M → Rg l0 → f_Seq_symbolOf_0 O n l0 l1 M = some q → zFr Rg M q.2 := by
  intro n l0 l1 M hcl hR_l0 h
  rw [f_Seq_symbolOf_0] at h
  have g := zFr.rf hcl
  obtain ⟨h1, h⟩ := zif h
  have r1 : Rg (z_p M l0 8) := g.cl _ _ hR_l0
  obtain ⟨h2, h⟩ := zif h
  obtain ⟨h3, h⟩ := zif h
  have r2 : Rg (z_p M (z_p M l0 8) l1.toNatClampNeg) := g.cl _ _ r1
  have r3 : Rg (z_p M l0 10) := g.cl _ _ hR_l0
  obtain ⟨h4, h⟩ := zif h
  obtain ⟨h5, h⟩ := zif h
  obtain ⟨h6, h⟩ := zif h
  obtain ⟨q7, c8, h⟩ := zbd h
  have g := g.tr (G_Share_symbolOf g.cl r2 c8)
  by_cases c12 : q7.1 < 0
  · have h := zift h c12
    exact g.tr (g_Seq_symbolOf_33 n q7.2 g.cl h)
  · have h := ziff h c12
    obtain ⟨h9, h⟩ := zif h
    obtain ⟨h10, h⟩ := zif h
    by_cases c11 : (O.2.2.2 (O.1 1) l1.toNatClampNeg) < q7.1
    · have h := zift h c11
      exact g.tr (g_Seq_symbolOf_33 n q7.2 g.cl h)
    · have h := ziff h c11
      exact g.tr (g_Seq_symbolOf_34 n q7.1 q7.2 g.cl h)
theorem G_Seq_symbolOf {Rg : Nat → Prop} {O : zO} {n : Nat} {l0 : Nat} {l1 : Int32} {M : zM} {q : Int32 × zM} (hcl : zCl Rg M) (hR_l0 : Rg l0) (h : F_Seq_symbolOf O n l0 l1 M = some q) : zFr Rg M q.2 := g_Seq_symbolOf_0 n l0 l1 M hcl hR_l0 h

set_option maxRecDepth 100000 in
set_option maxHeartbeats 4000000 in
theorem g_Seq_follow_0 {Rg : Nat → Prop} {O : zO} {q : Unit × zM} : ∀ (n : Nat) (l0 : Nat) (l1 : Int32) (M : zM), zCl Rg M → Rg l0 → f_Seq_follow_0 O n l0 l1 M = some q → zFr Rg M q.2 := by
  intro n l0 l1 M hcl hR_l0 h
  rw [f_Seq_follow_0] at h
  have g := zFr.rf hcl
  obtain ⟨h1, h⟩ := zif h
  have r1 : Rg (z_p M l0 8) := g.cl _ _ hR_l0
  obtain ⟨h2, h⟩ := zif h
  obtain ⟨h3, h⟩ := zif h
  have r2 : Rg (z_p M (z_p M l0 8) l1.toNatClampNeg) := g.cl _ _ r1
  have r3 : Rg (z_p M l0 10) := g.cl _ _ hR_l0
  obtain ⟨h4, h⟩ := zif h
  obtain ⟨h5, h⟩ := zif h
  obtain ⟨h6, h⟩ := zif h
  obtain ⟨q7, c8, h⟩ := zbd h
  have g := g.tr (G_Share_baseOf g.cl r2 c8)
  obtain ⟨h9, h⟩ := zif h
  have r4 : Rg (z_p q7.2 l0 10) := g.cl _ _ hR_l0
  have r5 : Rg (z_p q7.2 l0 4) := g.cl _ _ hR_l0
  have r6 : Rg (z_p q7.2 l0 8) := g.cl _ _ hR_l0
  obtain ⟨h10, h⟩ := zif h
  obtain ⟨h11, h⟩ := zif h
  have r7 : Rg (z_p q7.2 (z_p q7.2 l0 8) l1.toNatClampNeg) := g.cl _ _ r6
  have r8 : Rg (z_p q7.2 l0 10) := g.cl _ _ hR_l0
  obtain ⟨h12, h⟩ := zif h
  obtain ⟨h13, h⟩ := zif h
  obtain ⟨h14, h⟩ := zif h
  obtain ⟨q15, c16, h⟩ := zbd h
  have g := g.tr (G_Share_bitsOf g.cl r7 c16)
  obtain ⟨h17, h⟩ := zif h
  obtain ⟨q18, c19, h⟩ := zbd h
  have g := g.tr (G_Stream_take g.cl r5 c19)
  obtain ⟨h20, h⟩ := zif h
  obtain ⟨h21, h⟩ := zif h
  obtain ⟨M22, e23, h⟩ := zlet_ex h
  have g := g.i r8 e23
  have h24 := k_i e23 h20
  obtain rfl := z_res h
  exact g
theorem G_Seq_follow {Rg : Nat → Prop} {O : zO} {n : Nat} {l0 : Nat} {l1 : Int32} {M : zM} {q : Unit × zM} (hcl : zCl Rg M) (hR_l0 : Rg l0) (h : F_Seq_follow O n l0 l1 M = some q) : zFr Rg M q.2 := g_Seq_follow_0 n l0 l1 M hcl hR_l0 h

set_option maxRecDepth 100000 in
set_option maxHeartbeats 4000000 in
theorem g_Latest_lead_0 {Rg : Nat → Prop} {O : zO} {q : Unit × zM} : ∀ (n : Nat) (l0 : Nat) (l1 : Int64) (M : zM), zCl Rg M → Rg l0 → f_Latest_lead_0 O n l0 l1 M = some q → zFr Rg M q.2 := by
  intro n l0 l1 M hcl hR_l0 h
  rw [f_Latest_lead_0] at h
  have g := zFr.rf hcl
  obtain ⟨h1, h⟩ := zif h
  obtain ⟨M2, e3, h⟩ := zlet_ex h
  have g := g.j hR_l0 e3
  have h4 := k_j e3 h1
  obtain ⟨M5, e6, h⟩ := zlet_ex h
  have g := g.j hR_l0 e6
  have h7 := k_j e6 h4
  obtain ⟨M8, e9, h⟩ := zlet_ex h
  have g := g.j hR_l0 e9
  have h10 := k_j e9 h7
  obtain rfl := z_res h
  exact g
theorem G_Latest_lead {Rg : Nat → Prop} {O : zO} {n : Nat} {l0 : Nat} {l1 : Int64} {M : zM} {q : Unit × zM} (hcl : zCl Rg M) (hR_l0 : Rg l0) (h : F_Latest_lead O n l0 l1 M = some q) : zFr Rg M q.2 := g_Latest_lead_0 n l0 l1 M hcl hR_l0 h

set_option maxRecDepth 100000 in
set_option maxHeartbeats 4000000 in
theorem g_Latest_choose_104 {Rg : Nat → Prop} {O : zO} {q : Int64 × zM} : ∀ (n : Nat) (l0 : Nat) (M : zM), zCl Rg M → Rg l0 → f_Latest_choose_104 O n l0 M = some q → zFr Rg M q.2 := by
  intro n l0 M hcl hR_l0 h
  rw [f_Latest_choose_104] at h
  have g := zFr.rf hcl
  obtain ⟨h1, h⟩ := zif h
  obtain rfl := z_res h
  exact g
set_option maxRecDepth 100000 in
set_option maxHeartbeats 4000000 in
theorem g_Latest_choose_11 {Rg : Nat → Prop} {O : zO} {q : Int64 × zM} : ∀ (n : Nat) (l0 : Nat) (l1 : Int64) (s0 : Int64) (M : zM), zCl Rg M → Rg l0 → f_Latest_choose_11 O n l0 l1 s0 M = some q → zFr Rg M q.2 := by
  intro n l0 l1 s0 M hcl hR_l0 h
  rw [f_Latest_choose_11] at h
  have g := zFr.rf hcl
  by_cases c22 : (lg_cmp l1 (3 : Int64)) ≤ 0
  · have h := zift h c22
    by_cases c18 : (lg_cmp s0 (2 : Int64)) = 0
    · have h := zift h c18
      obtain ⟨h9, h⟩ := zif h
      obtain ⟨v10, e11, h⟩ := zlet_ex h
      obtain ⟨M12, e13, h⟩ := zlet_ex h
      have g := g.j hR_l0 e13
      have h14 := k_j e13 h9
      obtain ⟨M15, e16, h⟩ := zlet_ex h
      have g := g.j hR_l0 e16
      have h17 := k_j e16 h14
      exact g.tr (g_Latest_choose_104 n l0 M15 g.cl hR_l0 h)
    · have h := ziff h c18
      by_cases c8 : (lg_cmp s0 (3 : Int64)) = 0
      · have h := zift h c8
        obtain ⟨h5, h⟩ := zif h
        obtain ⟨q6, c7, h⟩ := zbd h
        have g := g.tr (G_Latest_lead g.cl hR_l0 c7)
        exact g.tr (g_Latest_choose_104 n l0 q6.2 g.cl hR_l0 h)
      · have h := ziff h c8
        by_cases c4 : (lg_cmp s0 (4 : Int64)) = 0
        · have h := zift h c4
          obtain ⟨h1, h⟩ := zif h
          obtain ⟨q2, c3, h⟩ := zbd h
          have g := g.tr (G_Latest_lead g.cl hR_l0 c3)
          exact g.tr (g_Latest_choose_104 n l0 q2.2 g.cl hR_l0 h)
        · have h := ziff h c4
          exact g.tr (g_Latest_choose_104 n l0 M g.cl hR_l0 h)
  · have h := ziff h c22
    obtain ⟨h19, h⟩ := zif h
    obtain ⟨q20, c21, h⟩ := zbd h
    have g := g.tr (G_Latest_lead g.cl hR_l0 c21)
    exact g.tr (g_Latest_choose_104 n l0 q20.2 g.cl hR_l0 h)
set_option maxRecDepth 100000 in
set_option maxHeartbeats 4000000 in
theorem g_Latest_choose_0 {Rg : Nat → Prop} {O : zO} {q : Int64 × zM} : ∀ (n : Nat) (l0 : Nat) (l1 : Int64) (l3 : Int32) (M : zM), zCl Rg M → Rg l0 → f_Latest_choose_0 O n l0 l1 l3 M = some q → zFr Rg M q.2 := by
  intro n l0 l1 l3 M hcl hR_l0 h
  rw [f_Latest_choose_0] at h
  have g := zFr.rf hcl
  by_cases c1 : l3 = 0
  · have h := zift h c1
    exact g.tr (g_Latest_choose_11 n l0 l1 (l1 + (1 : Int64)) M g.cl hR_l0 h)
  · have h := ziff h c1
    exact g.tr (g_Latest_choose_11 n l0 l1 l1 M g.cl hR_l0 h)
theorem G_Latest_choose {Rg : Nat → Prop} {O : zO} {n : Nat} {l0 : Nat} {l1 : Int64} {l3 : Int32} {M : zM} {q : Int64 × zM} (hcl : zCl Rg M) (hR_l0 : Rg l0) (h : F_Latest_choose O n l0 l1 l3 M = some q) : zFr Rg M q.2 := g_Latest_choose_0 n l0 l1 l3 M hcl hR_l0 h

set_option maxRecDepth 100000 in
set_option maxHeartbeats 4000000 in
theorem g_Content_ofFrame_0 {Rg : Nat → Prop} {O : zO} {q : Int32 × zM} : ∀ (n : Nat) (l0 : Nat) (M : zM), zCl Rg M → Rg l0 → f_Content_ofFrame_0 O n l0 M = some q → zFr Rg M q.2 := by
  intro n l0 M hcl hR_l0 h
  rw [f_Content_ofFrame_0] at h
  have g := zFr.rf hcl
  obtain ⟨h1, h⟩ := zif h
  have r1 : Rg (z_p M l0 0) := g.cl _ _ hR_l0
  obtain ⟨h2, h⟩ := zif h
  obtain rfl := z_res h
  exact g
theorem G_Content_ofFrame {Rg : Nat → Prop} {O : zO} {n : Nat} {l0 : Nat} {M : zM} {q : Int32 × zM} (hcl : zCl Rg M) (hR_l0 : Rg l0) (h : F_Content_ofFrame O n l0 M = some q) : zFr Rg M q.2 := g_Content_ofFrame_0 n l0 M hcl hR_l0 h

set_option maxRecDepth 100000 in
set_option maxHeartbeats 4000000 in
theorem g_Content_tooFar_32 {Rg : Nat → Prop} {O : zO} {q : Int32 × zM} : ∀ (n : Nat) (M : zM), zCl Rg M → f_Content_tooFar_32 O n M = some q → zFr Rg M q.2 := by
  intro n M hcl h
  rw [f_Content_tooFar_32] at h
  have g := zFr.rf hcl
  obtain rfl := z_res h
  exact g
set_option maxRecDepth 100000 in
set_option maxHeartbeats 4000000 in
theorem g_Content_tooFar_73 {Rg : Nat → Prop} {O : zO} {q : Int32 × zM} : ∀ (n : Nat) (s0 : Int32) (M : zM), zCl Rg M → f_Content_tooFar_73 O n s0 M = some q → zFr Rg M q.2 := by
  intro n s0 M hcl h
  rw [f_Content_tooFar_73] at h
  have g := zFr.rf hcl
  obtain ⟨h1, h⟩ := zif h
  obtain rfl := z_res h
  exact g
set_option maxRecDepth 100000 in
set_option maxHeartbeats 4000000 in
theorem g_Content_tooFar_0 {Rg : Nat → Prop} {O : zO} {q : Int32 × zM} : ∀ (n : Nat) (l0 : Nat) (l1 : Int64) (l3 : Int32) (M : zM), zCl Rg M → Rg l0 → f_Content_tooFar_0 O n l0 l1 l3 M = some q → zFr Rg M q.2 := by
  intro n l0 l1 l3 M hcl hR_l0 h
  rw [f_Content_tooFar_0] at h
  have g := zFr.rf hcl
  obtain ⟨h1, h⟩ := zif h
  obtain ⟨q2, c3, h⟩ := zbd h
  have g := g.tr (G_Content_ofFrame g.cl hR_l0 c3)
  obtain ⟨v4, e5, h⟩ := zlet_ex h
  by_cases c12 : (lg_cmp l1 (0 : Int64)) ≤ 0
  · have h := zift h c12
    exact g.tr (g_Content_tooFar_32 n q2.2 g.cl h)
  · have h := ziff h c12
    obtain ⟨h6, h⟩ := zif h
    have r1 : Rg (z_p q2.2 l0 1) := g.cl _ _ hR_l0
    obtain ⟨h7, h⟩ := zif h
    by_cases c11 : (lg_cmp l1 (v4 + (z_i q2.2 (z_p q2.2 l0 1) 1).toInt64)) ≤ 0
    · have h := zift h c11
      by_cases c10 : 0 < (lg_cmp l1 v4)
      · have h := zift h c10
        by_cases c8 : (lg_cmp v4 (z_j q2.2 l0 5)) ≤ 0
        · have h := zift h c8
          exact g.tr (g_Content_tooFar_73 n (0 : Int32) q2.2 g.cl h)
        · have h := ziff h c8
          exact g.tr (g_Content_tooFar_73 n (1 : Int32) q2.2 g.cl h)
      · have h := ziff h c10
        by_cases c9 : (lg_cmp l1 (z_j q2.2 l0 5)) ≤ 0
        · have h := zift h c9
          exact g.tr (g_Content_tooFar_73 n (0 : Int32) q2.2 g.cl h)
        · have h := ziff h c9
          exact g.tr (g_Content_tooFar_73 n (1 : Int32) q2.2 g.cl h)
    · have h := ziff h c11
      exact g.tr (g_Content_tooFar_32 n q2.2 g.cl h)
theorem G_Content_tooFar {Rg : Nat → Prop} {O : zO} {n : Nat} {l0 : Nat} {l1 : Int64} {l3 : Int32} {M : zM} {q : Int32 × zM} (hcl : zCl Rg M) (hR_l0 : Rg l0) (h : F_Content_tooFar O n l0 l1 l3 M = some q) : zFr Rg M q.2 := g_Content_tooFar_0 n l0 l1 l3 M hcl hR_l0 h

set_option maxRecDepth 100000 in
set_option maxHeartbeats 4000000 in
theorem g_Content_copyBack_20 {Rg : Nat → Prop} {O : zO} {q : Unit × zM} : ∀ (n : Nat) (l0 : Nat) (l1 : Int32) (l2 : Int32) (l3 : Int32) (s0 : Int32) (M : zM), zCl Rg M → Rg l0 → f_Content_copyBack_20 O n l0 l1 l2 l3 s0 M = some q → zFr Rg M q.2 := by
  intro n l0 l1 l2 l3 s0 M hcl hR_l0 h
  rw [f_Content_copyBack_20] at h
  have g := zFr.rf hcl
  obtain ⟨h1, h⟩ := zif h
  have r1 : Rg (z_p M l0 0) := g.cl _ _ hR_l0
  have r2 : Rg (z_p M l0 1) := g.cl _ _ hR_l0
  have r3 : Rg (z_p M l0 1) := g.cl _ _ hR_l0
  obtain ⟨h2, h⟩ := zif h
  obtain ⟨h3, h⟩ := zif h
  obtain ⟨q4, c5, h⟩ := zbd h
  have g := g.tr (G_Row_putPart g.cl r1 r3 c5)
  obtain ⟨h6, h⟩ := zif h
  have r4 : Rg (z_p q4.2 l0 0) := g.cl _ _ hR_l0
  obtain ⟨h7, h⟩ := zif h
  obtain ⟨q8, c9, h⟩ := zbd h
  have g := g.tr (G_Row_putBack g.cl r4 c9)
  obtain rfl := z_res h
  exact g
set_option maxRecDepth 100000 in
set_option maxHeartbeats 4000000 in
theorem g_Content_copyBack_0 {Rg : Nat → Prop} {O : zO} {q : Unit × zM} : ∀ (n : Nat) (l0 : Nat) (l1 : Int32) (l2 : Int32) (M : zM), zCl Rg M → Rg l0 → f_Content_copyBack_0 O n l0 l1 l2 M = some q → zFr Rg M q.2 := by
  intro n l0 l1 l2 M hcl hR_l0 h
  rw [f_Content_copyBack_0] at h
  have g := zFr.rf hcl
  obtain ⟨h1, h⟩ := zif h
  obtain ⟨q2, c3, h⟩ := zbd h
  have g := g.tr (G_Content_ofFrame g.cl hR_l0 c3)
  obtain ⟨v4, e5, h⟩ := zlet_ex h
  by_cases c8 : v4 ≤ 0
  · have h := zift h c8
    exact g.tr (g_Content_copyBack_20 n l0 l1 l2 v4 (0 : Int32) q2.2 g.cl hR_l0 h)
  · have h := ziff h c8
    obtain ⟨q6, c7, h⟩ := zbd h
    have g := g.tr (G_JMath_min g.cl c7)
    exact g.tr (g_Content_copyBack_20 n l0 l1 l2 v4 q6.1 q6.2 g.cl hR_l0 h)
theorem G_Content_copyBack {Rg : Nat → Prop} {O : zO} {n : Nat} {l0 : Nat} {l1 : Int32} {l2 : Int32} {M : zM} {q : Unit × zM} (hcl : zCl Rg M) (hR_l0 : Rg l0) (h : F_Content_copyBack O n l0 l1 l2 M = some q) : zFr Rg M q.2 := g_Content_copyBack_0 n l0 l1 l2 M hcl hR_l0 h

set_option maxRecDepth 100000 in
set_option maxHeartbeats 4000000 in
theorem g_Seq_takeOne_96 {Rg : Nat → Prop} {O : zO} {q : Int32 × zM} : ∀ (n : Nat) (l0 : Nat) (l5 : Int64) (l7 : Int32) (l8 : Int32) (M : zM), zCl Rg M → Rg l0 → f_Seq_takeOne_96 O n l0 l5 l7 l8 M = some q → zFr Rg M q.2 := by
  intro n l0 l5 l7 l8 M hcl hR_l0 h
  rw [f_Seq_takeOne_96] at h
  have g := zFr.rf hcl
  obtain ⟨h1, h⟩ := zif h
  have r4 : Rg (z_p M l0 4) := g.cl _ _ hR_l0
  obtain ⟨h2, h⟩ := zif h
  by_cases c35 : 0 ≤ (z_i M (z_p M l0 4) 2)
  · have h := zift h c35
    have r5 : Rg (z_p M l0 3) := g.cl _ _ hR_l0
    obtain ⟨h3, h⟩ := zif h
    obtain ⟨q4, c5, h⟩ := zbd h
    have g := g.tr (G_Lit_left g.cl r5 c5)
    by_cases c34 : l8 ≤ q4.1
    · have h := zift h c34
      obtain ⟨h6, h⟩ := zif h
      have r6 : Rg (z_p q4.2 l0 5) := g.cl _ _ hR_l0
      obtain ⟨h7, h⟩ := zif h
      obtain ⟨q8, c9, h⟩ := zbd h
      have g := g.tr (G_Latest_choose g.cl r6 c9)
      obtain ⟨h10, h⟩ := zif h
      have r7 : Rg (z_p q8.2 l0 2) := g.cl _ _ hR_l0
      obtain ⟨h11, h⟩ := zif h
      obtain ⟨q12, c13, h⟩ := zbd h
      have g := g.tr (G_Content_tooFar g.cl r7 c13)
      by_cases c33 : q12.1 = 0
      · have h := zift h c33
        obtain ⟨h14, h⟩ := zif h
        have r8 : Rg (z_p q12.2 l0 2) := g.cl _ _ hR_l0
        obtain ⟨h15, h⟩ := zif h
        obtain ⟨q16, c17, h⟩ := zbd h
        have g := g.tr (G_Content_overBlock g.cl r8 c17)
        by_cases c32 : q16.1 = 0
        · have h := zift h c32
          obtain ⟨h18, h⟩ := zif h
          have r9 : Rg (z_p q16.2 l0 2) := g.cl _ _ hR_l0
          obtain ⟨h19, h⟩ := zif h
          obtain ⟨q20, c21, h⟩ := zbd h
          have g := g.tr (G_Content_overMost g.cl r9 c21)
          by_cases c31 : q20.1 = 0
          · have h := zift h c31
            obtain ⟨h22, h⟩ := zif h
            have r10 : Rg (z_p q20.2 l0 3) := g.cl _ _ hR_l0
            have r11 : Rg (z_p q20.2 l0 2) := g.cl _ _ hR_l0
            obtain ⟨h23, h⟩ := zif h
            have r12 : Rg (z_p q20.2 (z_p q20.2 l0 2) 0) := g.cl _ _ r11
            obtain ⟨h24, h⟩ := zif h
            obtain ⟨q25, c26, h⟩ := zbd h
            have g := g.tr (G_Lit_moveTo g.cl r10 r12 c26)
            obtain ⟨h27, h⟩ := zif h
            have r13 : Rg (z_p q25.2 l0 2) := g.cl _ _ hR_l0
            obtain ⟨h28, h⟩ := zif h
            obtain ⟨q29, c30, h⟩ := zbd h
            have g := g.tr (G_Content_copyBack g.cl r13 c30)
            obtain rfl := z_res h
            exact g
          · have h := ziff h c31
            obtain rfl := z_res h
            exact g
        · have h := ziff h c32
          obtain rfl := z_res h
          exact g
      · have h := ziff h c33
        obtain rfl := z_res h
        exact g
    · have h := ziff h c34
      obtain rfl := z_res h
      exact g
  · have h := ziff h c35
    obtain rfl := z_res h
    exact g
set_option maxRecDepth 100000 in
set_option maxHeartbeats 4000000 in
theorem g_Seq_takeOne_0 {Rg : Nat → Prop} {O : zO} {q : Int32 × zM} : ∀ (n : Nat) (l0 : Nat) (l1 : Int32) (M : zM), zCl Rg M → Rg l0 → f_Seq_takeOne_0 O n l0 l1 M = some q → zFr Rg M q.2 := by
  intro n l0 l1 M hcl hR_l0 h
  rw [f_Seq_takeOne_0] at h
  have g := zFr.rf hcl
  obtain ⟨h1, h⟩ := zif h
  obtain ⟨q2, c3, h⟩ := zbd h
  have g := g.tr (G_Seq_symbolOf g.cl hR_l0 c3)
  obtain ⟨h4, h⟩ := zif h
  obtain ⟨q5, c6, h⟩ := zbd h
  have g := g.tr (G_Seq_symbolOf g.cl hR_l0 c6)
  obtain ⟨h7, h⟩ := zif h
  obtain ⟨q8, c9, h⟩ := zbd h
  have g := g.tr (G_Seq_symbolOf g.cl hR_l0 c9)
  obtain ⟨h10, h⟩ := zif h
  have r1 : Rg (z_p q8.2 l0 4) := g.cl _ _ hR_l0
  obtain ⟨h11, h⟩ := zif h
  obtain ⟨q12, c13, h⟩ := zbd h
  have g := g.tr (G_Stream_take g.cl r1 c13)
  obtain ⟨v14, e15, h⟩ := zlet_ex h
  obtain ⟨h16, h⟩ := zif h
  obtain ⟨h17, h⟩ := zif h
  obtain ⟨h18, h⟩ := zif h
  have r2 : Rg (z_p q12.2 l0 4) := g.cl _ _ hR_l0
  obtain ⟨h19, h⟩ := zif h
  obtain ⟨h20, h⟩ := zif h
  obtain ⟨h21, h⟩ := zif h
  obtain ⟨q22, c23, h⟩ := zbd h
  have g := g.tr (G_Stream_take g.cl r2 c23)
  obtain ⟨v24, e25, h⟩ := zlet_ex h
  obtain ⟨h26, h⟩ := zif h
  obtain ⟨h27, h⟩ := zif h
  obtain ⟨h28, h⟩ := zif h
  have r3 : Rg (z_p q22.2 l0 4) := g.cl _ _ hR_l0
  obtain ⟨h29, h⟩ := zif h
  obtain ⟨h30, h⟩ := zif h
  obtain ⟨h31, h⟩ := zif h
  obtain ⟨q32, c33, h⟩ := zbd h
  have g := g.tr (G_Stream_take g.cl r3 c33)
  obtain ⟨v34, e35, h⟩ := zlet_ex h
  by_cases c45 : l1 = 0
  · have h := zift h c45
    obtain ⟨h36, h⟩ := zif h
    obtain ⟨q37, c38, h⟩ := zbd h
    have g := g.tr (G_Seq_follow g.cl hR_l0 c38)
    obtain ⟨h39, h⟩ := zif h
    obtain ⟨q40, c41, h⟩ := zbd h
    have g := g.tr (G_Seq_follow g.cl hR_l0 c41)
    obtain ⟨h42, h⟩ := zif h
    obtain ⟨q43, c44, h⟩ := zbd h
    have g := g.tr (G_Seq_follow g.cl hR_l0 c44)
    exact g.tr (g_Seq_takeOne_96 n l0 v14 v24 v34 q43.2 g.cl hR_l0 h)
  · have h := ziff h c45
    exact g.tr (g_Seq_takeOne_96 n l0 v14 v24 v34 q32.2 g.cl hR_l0 h)
theorem G_Seq_takeOne {Rg : Nat → Prop} {O : zO} {n : Nat} {l0 : Nat} {l1 : Int32} {M : zM} {q : Int32 × zM} (hcl : zCl Rg M) (hR_l0 : Rg l0) (h : F_Seq_takeOne O n l0 l1 M = some q) : zFr Rg M q.2 := g_Seq_takeOne_0 n l0 l1 M hcl hR_l0 h

set_option maxRecDepth 100000 in
set_option maxHeartbeats 4000000 in
theorem g_Seq_takeAll_179 {Rg : Nat → Prop} {O : zO} {q : Int32 × zM} : ∀ (n : Nat) (s0 : Int32) (M : zM), zCl Rg M → f_Seq_takeAll_179 O n s0 M = some q → zFr Rg M q.2 := by
  intro n s0 M hcl h
  rw [f_Seq_takeAll_179] at h
  have g := zFr.rf hcl
  obtain ⟨h1, h⟩ := zif h
  obtain rfl := z_res h
  exact g
set_option maxRecDepth 100000 in
set_option maxHeartbeats 4000000 in
theorem g_Seq_takeAll_174 {Rg : Nat → Prop} {O : zO} {q : Int32 × zM} : ∀ (n : Nat) (M : zM), zCl Rg M → f_Seq_takeAll_174 O n M = some q → zFr Rg M q.2 := by
  intro n M hcl h
  rw [f_Seq_takeAll_174] at h
  have g := zFr.rf hcl
  exact g.tr (g_Seq_takeAll_179 n (1 : Int32) M g.cl h)
set_option maxRecDepth 100000 in
set_option maxHeartbeats 4000000 in
theorem g_Seq_takeAll_111 {Rg : Nat → Prop} {O : zO} {q : Int32 × zM} {k91 : Nat → Int32 → Int32 → Int32 → zM → Option (Int32 × zM)} (hk91 : ∀ (l0 : Nat) (l1 : Int32) (l2 : Int32) (l4 : Int32) (M : zM), zCl Rg M → Rg l0 → k91 l0 l1 l2 l4 M = some q → zFr Rg M q.2) : ∀ (n : Nat) (l0 : Nat) (l1 : Int32) (l2 : Int32) (l4 : Int32) (s0 : Nat) (s1 : Int32) (M : zM), zCl Rg M → Rg l0 → Rg s0 → f_Seq_takeAll_111 O k91 n l0 l1 l2 l4 s0 s1 M = some q → zFr Rg M q.2 := by
  intro n l0 l1 l2 l4 s0 s1 M hcl hR_l0 hR_s0 h
  rw [f_Seq_takeAll_111] at h
  have g := zFr.rf hcl
  obtain ⟨h1, h⟩ := zif h
  obtain ⟨q2, c3, h⟩ := zbd h
  have g := g.tr (G_Seq_takeOne g.cl hR_s0 c3)
  by_cases c17 : q2.1 = 0
  · have h := zift h c17
    obtain ⟨h4, h⟩ := zif h
    have r12 : Rg (z_p q2.2 l0 1) := g.cl _ _ hR_l0
    obtain ⟨h5, h⟩ := zif h
    obtain ⟨M6, e7, h⟩ := zlet_ex h
    have g := g.i r12 e7
    have h8 := k_i e7 h4
    have h9 := k_i e7 h5
    obtain ⟨v10, e11, h⟩ := zlet_ex h
    exact g.tr (hk91 l0 l1 l2 v10 M6 g.cl hR_l0 h)
  · have h := ziff h c17
    obtain ⟨h12, h⟩ := zif h
    have r13 : Rg (z_p q2.2 l0 1) := g.cl _ _ hR_l0
    obtain ⟨h13, h⟩ := zif h
    obtain ⟨q14, c15, h⟩ := zbd h
    have g := g.tr (G_Rep_fail g.cl r13 c15)
    obtain ⟨h16, h⟩ := zif h
    obtain rfl := z_res h
    exact g
set_option maxRecDepth 100000 in
set_option maxHeartbeats 4000000 in
theorem g_Seq_takeAll_91 {Rg : Nat → Prop} {O : zO} {q : Int32 × zM} : ∀ (n : Nat) (l0 : Nat) (l1 : Int32) (l2 : Int32) (l4 : Int32) (M : zM), zCl Rg M → Rg l0 → f_Seq_takeAll_91 O n l0 l1 l2 l4 M = some q → zFr Rg M q.2 := by
  intro n
  induction n with
  | zero => intro l0 l1 l2 l4 M hcl hR_l0 h; rw [f_Seq_takeAll_91] at h; cases h
  | succ n ih =>
    intro l0 l1 l2 l4 M hcl hR_l0 h
    rw [f_Seq_takeAll_91] at h
    have g := zFr.rf hcl
    by_cases c9 : l1 ≤ l4
    · have h := zift h c9
      obtain ⟨h1, h⟩ := zif h
      have r10 : Rg (z_p M l0 4) := g.cl _ _ hR_l0
      obtain ⟨h2, h⟩ := zif h
      by_cases c7 : (z_i M (z_p M l0 4) 2) = 0
      · have h := zift h c7
        exact g.tr (g_Seq_takeAll_174 n M g.cl h)
      · have h := ziff h c7
        have r11 : Rg (z_p M l0 1) := g.cl _ _ hR_l0
        obtain ⟨h3, h⟩ := zif h
        obtain ⟨q4, c5, h⟩ := zbd h
        have g := g.tr (G_Rep_fail g.cl r11 c5)
        by_cases c6 : q4.1 = 0
        · have h := zift h c6
          exact g.tr (g_Seq_takeAll_179 n (0 : Int32) q4.2 g.cl h)
        · have h := ziff h c6
          exact g.tr (g_Seq_takeAll_174 n q4.2 g.cl h)
    · have h := ziff h c9
      by_cases c8 : l4 = (l1 - (1 : Int32))
      · have h := zift h c8
        exact g.tr (g_Seq_takeAll_111 ih n l0 l1 l2 l4 l0 (1 : Int32) M g.cl hR_l0 hR_l0 h)
      · have h := ziff h c8
        exact g.tr (g_Seq_takeAll_111 ih n l0 l1 l2 l4 l0 (0 : Int32) M g.cl hR_l0 hR_l0 h)
set_option maxRecDepth 100000 in
set_option maxHeartbeats 4000000 in
theorem g_Seq_takeAll_30 {Rg : Nat → Prop} {O : zO} {q : Int32 × zM} : ∀ (n : Nat) (l0 : Nat) (l1 : Int32) (l2 : Int32) (l4 : Int32) (M : zM), zCl Rg M → Rg l0 → f_Seq_takeAll_30 O n l0 l1 l2 l4 M = some q → zFr Rg M q.2 := by
  intro n
  induction n with
  | zero => intro l0 l1 l2 l4 M hcl hR_l0 h; rw [f_Seq_takeAll_30] at h; cases h
  | succ n ih =>
    intro l0 l1 l2 l4 M hcl hR_l0 h
    rw [f_Seq_takeAll_30] at h
    have g := zFr.rf hcl
    by_cases c22 : (3 : Int32) ≤ l4
    · have h := zift h c22
      obtain ⟨h1, h⟩ := zif h
      have r4 : Rg (z_p M l0 4) := g.cl _ _ hR_l0
      obtain ⟨h2, h⟩ := zif h
      by_cases c7 : 0 ≤ (z_i M (z_p M l0 4) 2)
      · have h := zift h c7
        exact g.tr (g_Seq_takeAll_91 n l0 l1 l2 (0 : Int32) M g.cl hR_l0 h)
      · have h := ziff h c7
        have r5 : Rg (z_p M l0 1) := g.cl _ _ hR_l0
        obtain ⟨h3, h⟩ := zif h
        obtain ⟨q4, c5, h⟩ := zbd h
        have g := g.tr (G_Rep_fail g.cl r5 c5)
        obtain ⟨h6, h⟩ := zif h
        obtain rfl := z_res h
        exact g
    · have h := ziff h c22
      obtain ⟨h8, h⟩ := zif h
      have r6 : Rg (z_p M l0 10) := g.cl _ _ hR_l0
      have r7 : Rg (z_p M l0 4) := g.cl _ _ hR_l0
      have r8 : Rg (z_p M l0 8) := g.cl _ _ hR_l0
      obtain ⟨h9, h⟩ := zif h
      obtain ⟨h10, h⟩ := zif h
      have r9 : Rg (z_p M (z_p M l0 8) l4.toNatClampNeg) := g.cl _ _ r8
      obtain ⟨h11, h⟩ := zif h
      obtain ⟨h12, h⟩ := zif h
      obtain ⟨q13, c14, h⟩ := zbd h
      have g := g.tr (G_Stream_take g.cl r7 c14)
      obtain ⟨h15, h⟩ := zif h
      obtain ⟨h16, h⟩ := zif h
      obtain ⟨M17, e18, h⟩ := zlet_ex h
      have g := g.i r6 e18
      have h19 := k_i e18 h15
      obtain ⟨v20, e21, h⟩ := zlet_ex h
      exact g.tr (ih l0 l1 l2 v20 M17 g.cl hR_l0 h)
set_option maxRecDepth 100000 in
set_option maxHeartbeats 4000000 in
theorem g_Seq_takeAll_0 {Rg : Nat → Prop} {O : zO} {q : Int32 × zM} : ∀ (n : Nat) (l0 : Nat) (l1 : Int32) (l2 : Int32) (l3 : Int32) (M : zM), zCl Rg M → Rg l0 → f_Seq_takeAll_0 O n l0 l1 l2 l3 M = some q → zFr Rg M q.2 := by
  intro n l0 l1 l2 l3 M hcl hR_l0 h
  rw [f_Seq_takeAll_0] at h
  have g := zFr.rf hcl
  obtain ⟨h1, h⟩ := zif h
  have r1 : Rg (z_p M l0 4) := g.cl _ _ hR_l0
  have r2 : Rg (z_p M l0 0) := g.cl _ _ hR_l0
  obtain ⟨h2, h⟩ := zif h
  obtain ⟨q3, c4, h⟩ := zbd h
  have g := g.tr (G_Stream_open g.cl r1 r2 c4)
  by_cases c10 : q3.1 = 0
  · have h := zift h c10
    obtain ⟨h5, h⟩ := zif h
    have r3 : Rg (z_p q3.2 l0 1) := g.cl _ _ hR_l0
    obtain ⟨h6, h⟩ := zif h
    obtain ⟨q7, c8, h⟩ := zbd h
    have g := g.tr (G_Rep_fail g.cl r3 c8)
    obtain ⟨h9, h⟩ := zif h
    obtain rfl := z_res h
    exact g
  · have h := ziff h c10
    exact g.tr (g_Seq_takeAll_30 n l0 l1 l2 (0 : Int32) q3.2 g.cl hR_l0 h)
theorem G_Seq_takeAll {Rg : Nat → Prop} {O : zO} {n : Nat} {l0 : Nat} {l1 : Int32} {l2 : Int32} {l3 : Int32} {M : zM} {q : Int32 × zM} (hcl : zCl Rg M) (hR_l0 : Rg l0) (h : F_Seq_takeAll O n l0 l1 l2 l3 M = some q) : zFr Rg M q.2 := g_Seq_takeAll_0 n l0 l1 l2 l3 M hcl hR_l0 h

set_option maxRecDepth 100000 in
set_option maxHeartbeats 4000000 in
theorem g_Seq_take_271 {Rg : Nat → Prop} {O : zO} {q : Int32 × zM} : ∀ (n : Nat) (s0 : Int32) (M : zM), zCl Rg M → f_Seq_take_271 O n s0 M = some q → zFr Rg M q.2 := by
  intro n s0 M hcl h
  rw [f_Seq_take_271] at h
  have g := zFr.rf hcl
  obtain ⟨h1, h⟩ := zif h
  obtain rfl := z_res h
  exact g
set_option maxRecDepth 100000 in
set_option maxHeartbeats 4000000 in
theorem g_Seq_take_270 {Rg : Nat → Prop} {O : zO} {q : Int32 × zM} : ∀ (n : Nat) (M : zM), zCl Rg M → f_Seq_take_270 O n M = some q → zFr Rg M q.2 := by
  intro n M hcl h
  rw [f_Seq_take_270] at h
  have g := zFr.rf hcl
  exact g.tr (g_Seq_take_271 n (0 : Int32) M g.cl h)
set_option maxRecDepth 100000 in
set_option maxHeartbeats 4000000 in
theorem g_Seq_take_239 {Rg : Nat → Prop} {O : zO} {q : Int32 × zM} : ∀ (n : Nat) (l0 : Nat) (l3 : Int32) (l7 : Int32) (l8 : Int32) (M : zM), zCl Rg M → Rg l0 → f_Seq_take_239 O n l0 l3 l7 l8 M = some q → zFr Rg M q.2 := by
  intro n l0 l3 l7 l8 M hcl hR_l0 h
  rw [f_Seq_take_239] at h
  have g := zFr.rf hcl
  by_cases c9 : l8 = (-1 : Int32)
  · have h := zift h c9
    exact g.tr (g_Seq_take_270 n M g.cl h)
  · have h := ziff h c9
    obtain ⟨h1, h⟩ := zif h
    obtain ⟨q2, c3, h⟩ := zbd h
    have g := g.tr (G_Seq_takeAll g.cl hR_l0 c3)
    by_cases c8 : q2.1 = 0
    · have h := zift h c8
      exact g.tr (g_Seq_take_270 n q2.2 g.cl h)
    · have h := ziff h c8
      obtain ⟨h4, h⟩ := zif h
      obtain ⟨q5, c6, h⟩ := zbd h
      have g := g.tr (G_Seq_takeRest g.cl hR_l0 c6)
      by_cases c7 : q5.1 = 0
      · have h := zift h c7
        exact g.tr (g_Seq_take_270 n q5.2 g.cl h)
      · have h := ziff h c7
        exact g.tr (g_Seq_take_271 n (1 : Int32) q5.2 g.cl h)
set_option maxRecDepth 100000 in
set_option maxHeartbeats 4000000 in
theorem g_Seq_take_208 {Rg : Nat → Prop} {O : zO} {q : Int32 × zM} : ∀ (n : Nat) (l0 : Nat) (l3 : Int32) (l6 : Int32) (l7 : Int32) (l8 : Int32) (l9 : Int32) (M : zM), zCl Rg M → Rg l0 → f_Seq_take_208 O n l0 l3 l6 l7 l8 l9 M = some q → zFr Rg M q.2 := by
  intro n
  induction n with
  | zero => intro l0 l3 l6 l7 l8 l9 M hcl hR_l0 h; rw [f_Seq_take_208] at h; cases h
  | succ n ih =>
    intro l0 l3 l6 l7 l8 l9 M hcl hR_l0 h
    rw [f_Seq_take_208] at h
    have g := zFr.rf hcl
    by_cases c7 : (3 : Int32) ≤ l9
    · have h := zift h c7
      exact g.tr (g_Seq_take_239 n l0 l3 l7 l8 M g.cl hR_l0 h)
    · have h := ziff h c7
      by_cases c6 : l8 = (-1 : Int32)
      · have h := zift h c6
        exact g.tr (g_Seq_take_239 n l0 l3 l7 l8 M g.cl hR_l0 h)
      · have h := ziff h c6
        obtain ⟨h1, h⟩ := zif h
        obtain ⟨q2, c3, h⟩ := zbd h
        have g := g.tr (G_Seq_takeTable g.cl hR_l0 c3)
        obtain ⟨v4, e5, h⟩ := zlet_ex h
        exact g.tr (ih l0 l3 l6 l7 q2.1 v4 q2.2 g.cl hR_l0 h)
set_option maxRecDepth 100000 in
set_option maxHeartbeats 4000000 in
theorem g_Seq_take_155 {Rg : Nat → Prop} {O : zO} {q : Int32 × zM} : ∀ (n : Nat) (s0 : Int32) (M : zM), zCl Rg M → f_Seq_take_155 O n s0 M = some q → zFr Rg M q.2 := by
  intro n s0 M hcl h
  rw [f_Seq_take_155] at h
  have g := zFr.rf hcl
  obtain ⟨h1, h⟩ := zif h
  obtain rfl := z_res h
  exact g
set_option maxRecDepth 100000 in
set_option maxHeartbeats 4000000 in
theorem g_Seq_take_123 {Rg : Nat → Prop} {O : zO} {q : Int32 × zM} : ∀ (n : Nat) (l0 : Nat) (l1 : Int32) (l3 : Int32) (l6 : Int32) (s0 : Int32) (M : zM), zCl Rg M → Rg l0 → f_Seq_take_123 O n l0 l1 l3 l6 s0 M = some q → zFr Rg M q.2 := by
  intro n l0 l1 l3 l6 s0 M hcl hR_l0 h
  rw [f_Seq_take_123] at h
  have g := zFr.rf hcl
  by_cases c27 : s0 = 0
  · have h := zift h c27
    by_cases c26 : l3 ≤ l6
    · have h := zift h c26
      obtain ⟨h19, h⟩ := zif h
      obtain ⟨q20, c21, h⟩ := zbd h
      have g := g.tr (G_Seq_takeRest g.cl hR_l0 c21)
      exact g.tr (g_Seq_take_155 n q20.1 q20.2 g.cl h)
    · have h := ziff h c26
      obtain ⟨h22, h⟩ := zif h
      have r8 : Rg (z_p M l0 1) := g.cl _ _ hR_l0
      obtain ⟨h23, h⟩ := zif h
      obtain ⟨q24, c25, h⟩ := zbd h
      have g := g.tr (G_Rep_fail g.cl r8 c25)
      exact g.tr (g_Seq_take_155 n q24.1 q24.2 g.cl h)
  · have h := ziff h c27
    by_cases c18 : l6 < l3
    · have h := zift h c18
      obtain ⟨h1, h⟩ := zif h
      have r5 : Rg (z_p M l0 0) := g.cl _ _ hR_l0
      obtain ⟨h2, h⟩ := zif h
      obtain ⟨q3, c4, h⟩ := zbd h
      have g := g.tr (G_Row_at g.cl r5 c4)
      by_cases c12 : (q3.1 &&& (3 : Int32)) = 0
      · have h := zift h c12
        obtain ⟨v5, e6, h⟩ := zlet_ex h
        exact g.tr (g_Seq_take_208 n l0 l3 l6 s0 v5 (0 : Int32) q3.2 g.cl hR_l0 h)
      · have h := ziff h c12
        obtain ⟨h7, h⟩ := zif h
        have r6 : Rg (z_p q3.2 l0 1) := g.cl _ _ hR_l0
        obtain ⟨h8, h⟩ := zif h
        obtain ⟨q9, c10, h⟩ := zbd h
        have g := g.tr (G_Rep_fail g.cl r6 c10)
        obtain ⟨h11, h⟩ := zif h
        obtain rfl := z_res h
        exact g
    · have h := ziff h c18
      obtain ⟨h13, h⟩ := zif h
      have r7 : Rg (z_p M l0 1) := g.cl _ _ hR_l0
      obtain ⟨h14, h⟩ := zif h
      obtain ⟨q15, c16, h⟩ := zbd h
      have g := g.tr (G_Rep_fail g.cl r7 c16)
      obtain ⟨h17, h⟩ := zif h
      obtain rfl := z_res h
      exact g
set_option maxRecDepth 100000 in
set_option maxHeartbeats 4000000 in
theorem g_Seq_take_35 {Rg : Nat → Prop} {O : zO} {q : Int32 × zM} : ∀ (n : Nat) (l0 : Nat) (l1 : Int32) (l2 : Int32) (l3 : Int32) (l4 : Int32) (s0 : Int32) (M : zM), zCl Rg M → Rg l0 → f_Seq_take_35 O n l0 l1 l2 l3 l4 s0 M = some q → zFr Rg M q.2 := by
  intro n l0 l1 l2 l3 l4 s0 M hcl hR_l0 h
  rw [f_Seq_take_35] at h
  have g := zFr.rf hcl
  by_cases c18 : s0 ≤ (l3 - l2)
  · have h := zift h c18
    obtain ⟨v1, e2, h⟩ := zlet_ex h
    by_cases c12 : (128 : Int32) ≤ l4
    · have h := zift h c12
      by_cases c11 : (255 : Int32) ≤ l4
      · have h := zift h c11
        obtain ⟨h3, h⟩ := zif h
        have r2 : Rg (z_p M l0 0) := g.cl _ _ hR_l0
        obtain ⟨h4, h⟩ := zif h
        obtain ⟨q5, c6, h⟩ := zbd h
        have g := g.tr (G_Row_number g.cl r2 c6)
        exact g.tr (g_Seq_take_123 n l0 l1 l3 v1 (q5.1.toInt32 + (32512 : Int32)) q5.2 g.cl hR_l0 h)
      · have h := ziff h c11
        obtain ⟨h7, h⟩ := zif h
        have r3 : Rg (z_p M l0 0) := g.cl _ _ hR_l0
        obtain ⟨h8, h⟩ := zif h
        obtain ⟨q9, c10, h⟩ := zbd h
        have g := g.tr (G_Row_at g.cl r3 c10)
        exact g.tr (g_Seq_take_123 n l0 l1 l3 v1 (((256 : Int32) * (l4 - (128 : Int32))) + q9.1) q9.2 g.cl hR_l0 h)
    · have h := ziff h c12
      exact g.tr (g_Seq_take_123 n l0 l1 l3 v1 l4 M g.cl hR_l0 h)
  · have h := ziff h c18
    obtain ⟨h13, h⟩ := zif h
    have r4 : Rg (z_p M l0 1) := g.cl _ _ hR_l0
    obtain ⟨h14, h⟩ := zif h
    obtain ⟨q15, c16, h⟩ := zbd h
    have g := g.tr (G_Rep_fail g.cl r4 c16)
    obtain ⟨h17, h⟩ := zif h
    obtain rfl := z_res h
    exact g
set_option maxRecDepth 100000 in
set_option maxHeartbeats 4000000 in
theorem g_Seq_take_0 {Rg : Nat → Prop} {O : zO} {q : Int32 × zM} : ∀ (n : Nat) (l0 : Nat) (l1 : Int32) (l2 : Int32) (l3 : Int32) (M : zM), zCl Rg M → Rg l0 → f_Seq_take_0 O n l0 l1 l2 l3 M = some q → zFr Rg M q.2 := by
  intro n l0 l1 l2 l3 M hcl hR_l0 h
  rw [f_Seq_take_0] at h
  have g := zFr.rf hcl
  obtain ⟨h1, h⟩ := zif h
  have r1 : Rg (z_p M l0 0) := g.cl _ _ hR_l0
  obtain ⟨h2, h⟩ := zif h
  obtain ⟨q3, c4, h⟩ := zbd h
  have g := g.tr (G_Row_at g.cl r1 c4)
  by_cases c6 : (128 : Int32) ≤ q3.1
  · have h := zift h c6
    by_cases c5 : (255 : Int32) ≤ q3.1
    · have h := zift h c5
      exact g.tr (g_Seq_take_35 n l0 l1 l2 l3 q3.1 (3 : Int32) q3.2 g.cl hR_l0 h)
    · have h := ziff h c5
      exact g.tr (g_Seq_take_35 n l0 l1 l2 l3 q3.1 (2 : Int32) q3.2 g.cl hR_l0 h)
  · have h := ziff h c6
    exact g.tr (g_Seq_take_35 n l0 l1 l2 l3 q3.1 (1 : Int32) q3.2 g.cl hR_l0 h)
theorem G_Seq_take {Rg : Nat → Prop} {O : zO} {n : Nat} {l0 : Nat} {l1 : Int32} {l2 : Int32} {l3 : Int32} {M : zM} {q : Int32 × zM} (hcl : zCl Rg M) (hR_l0 : Rg l0) (h : F_Seq_take O n l0 l1 l2 l3 M = some q) : zFr Rg M q.2 := g_Seq_take_0 n l0 l1 l2 l3 M hcl hR_l0 h

set_option maxRecDepth 100000 in
set_option maxHeartbeats 4000000 in
theorem g_JLong_rotateLeft_0 {Rg : Nat → Prop} {O : zO} {q : Int64 × zM} : ∀ (n : Nat) (l0 : Int64) (l2 : Int32) (M : zM), zCl Rg M → f_JLong_rotateLeft_0 O n l0 l2 M = some q → zFr Rg M q.2 := by
  intro n l0 l2 M hcl h
  rw [f_JLong_rotateLeft_0] at h
  have g := zFr.rf hcl
  obtain rfl := z_res h
  exact g
theorem G_JLong_rotateLeft {Rg : Nat → Prop} {O : zO} {n : Nat} {l0 : Int64} {l2 : Int32} {M : zM} {q : Int64 × zM} (hcl : zCl Rg M) (h : F_JLong_rotateLeft O n l0 l2 M = some q) : zFr Rg M q.2 := g_JLong_rotateLeft_0 n l0 l2 M hcl h

set_option maxRecDepth 100000 in
set_option maxHeartbeats 4000000 in
theorem g_Content_mixed_0 {Rg : Nat → Prop} {O : zO} {q : Int64 × zM} : ∀ (n : Nat) (l0 : Int64) (l2 : Int64) (M : zM), zCl Rg M → f_Content_mixed_0 O n l0 l2 M = some q → zFr Rg M q.2 := by
  intro n l0 l2 M hcl h
  rw [f_Content_mixed_0] at h
  have g := zFr.rf hcl
  obtain ⟨q1, c2, h⟩ := zbd h
  have g := g.tr (G_JLong_rotateLeft g.cl c2)
  obtain rfl := z_res h
  exact g
theorem G_Content_mixed {Rg : Nat → Prop} {O : zO} {n : Nat} {l0 : Int64} {l2 : Int64} {M : zM} {q : Int64 × zM} (hcl : zCl Rg M) (h : F_Content_mixed O n l0 l2 M = some q) : zFr Rg M q.2 := g_Content_mixed_0 n l0 l2 M hcl h

set_option maxRecDepth 100000 in
set_option maxHeartbeats 4000000 in
theorem g_Content_sumOfLanes_22 {Rg : Nat → Prop} {O : zO} {q : Int64 × zM} : ∀ (n : Nat) (l0 : Nat) (l1 : Int64) (l3 : Int64) (l5 : Int64) (l7 : Int64) (l9 : Int32) (M : zM), zCl Rg M → Rg l0 → f_Content_sumOfLanes_22 O n l0 l1 l3 l5 l7 l9 M = some q → zFr Rg M q.2 := by
  intro n
  induction n with
  | zero => intro l0 l1 l3 l5 l7 l9 M hcl hR_l0 h; rw [f_Content_sumOfLanes_22] at h; cases h
  | succ n ih =>
    intro l0 l1 l3 l5 l7 l9 M hcl hR_l0 h
    rw [f_Content_sumOfLanes_22] at h
    have g := zFr.rf hcl
    obtain ⟨h1, h⟩ := zif h
    have r1 : Rg (z_p M l0 0) := g.cl _ _ hR_l0
    obtain ⟨h2, h⟩ := zif h
    by_cases c51 : ((z_i M (z_p M l0 0) 1) - (32 : Int32)) < l9
    · have h := zift h c51
      obtain ⟨q3, c4, h⟩ := zbd h
      have g := g.tr (G_JLong_rotateLeft g.cl c4)
      obtain ⟨q5, c6, h⟩ := zbd h
      have g := g.tr (G_JLong_rotateLeft g.cl c6)
      obtain ⟨q7, c8, h⟩ := zbd h
      have g := g.tr (G_JLong_rotateLeft g.cl c8)
      obtain ⟨q9, c10, h⟩ := zbd h
      have g := g.tr (G_JLong_rotateLeft g.cl c10)
      obtain ⟨v11, e12, h⟩ := zlet_ex h
      obtain ⟨q13, c14, h⟩ := zbd h
      have g := g.tr (G_Content_mixed g.cl c14)
      obtain ⟨v15, e16, h⟩ := zlet_ex h
      obtain ⟨q17, c18, h⟩ := zbd h
      have g := g.tr (G_Content_mixed g.cl c18)
      obtain ⟨v19, e20, h⟩ := zlet_ex h
      obtain ⟨q21, c22, h⟩ := zbd h
      have g := g.tr (G_Content_mixed g.cl c22)
      obtain ⟨v23, e24, h⟩ := zlet_ex h
      obtain ⟨q25, c26, h⟩ := zbd h
      have g := g.tr (G_Content_mixed g.cl c26)
      obtain rfl := z_res h
      exact g
    · have h := ziff h c51
      have r2 : Rg (z_p M l0 0) := g.cl _ _ hR_l0
      obtain ⟨q27, c28, h⟩ := zbd h
      have g := g.tr (G_Row_number g.cl r2 c28)
      obtain ⟨q29, c30, h⟩ := zbd h
      have g := g.tr (G_Content_mixed g.cl c30)
      obtain ⟨h31, h⟩ := zif h
      have r3 : Rg (z_p q29.2 l0 0) := g.cl _ _ hR_l0
      obtain ⟨h32, h⟩ := zif h
      obtain ⟨q33, c34, h⟩ := zbd h
      have g := g.tr (G_Row_number g.cl r3 c34)
      obtain ⟨q35, c36, h⟩ := zbd h
      have g := g.tr (G_Content_mixed g.cl c36)
      obtain ⟨h37, h⟩ := zif h
      have r4 : Rg (z_p q35.2 l0 0) := g.cl _ _ hR_l0
      obtain ⟨h38, h⟩ := zif h
      obtain ⟨q39, c40, h⟩ := zbd h
      have g := g.tr (G_Row_number g.cl r4 c40)
      obtain ⟨q41, c42, h⟩ := zbd h
      have g := g.tr (G_Content_mixed g.cl c42)
      obtain ⟨h43, h⟩ := zif h
      have r5 : Rg (z_p q41.2 l0 0) := g.cl _ _ hR_l0
      obtain ⟨h44, h⟩ := zif h
      obtain ⟨q45, c46, h⟩ := zbd h
      have g := g.tr (G_Row_number g.cl r5 c46)
      obtain ⟨q47, c48, h⟩ := zbd h
      have g := g.tr (G_Content_mixed g.cl c48)
      obtain ⟨v49, e50, h⟩ := zlet_ex h
      exact g.tr (ih l0 q29.1 q35.1 q41.1 q47.1 v49 q47.2 g.cl hR_l0 h)
set_option maxRecDepth 100000 in
set_option maxHeartbeats 4000000 in
theorem g_Content_sumOfLanes_0 {Rg : Nat → Prop} {O : zO} {q : Int64 × zM} : ∀ (n : Nat) (l0 : Nat) (M : zM), zCl Rg M → Rg l0 → f_Content_sumOfLanes_0 O n l0 M = some q → zFr Rg M q.2 := by
  intro n l0 M hcl hR_l0 h
  rw [f_Content_sumOfLanes_0] at h
  have g := zFr.rf hcl
  obtain ⟨h1, h⟩ := zif h
  obtain ⟨v2, e3, h⟩ := zlet_ex h
  exact g.tr (g_Content_sumOfLanes_22 n l0 (6983438078262162902 : Int64) (-4417276706812531889 : Int64) (0 : Int64) (7046029288634856825 : Int64) v2 M g.cl hR_l0 h)
theorem G_Content_sumOfLanes {Rg : Nat → Prop} {O : zO} {n : Nat} {l0 : Nat} {M : zM} {q : Int64 × zM} (hcl : zCl Rg M) (hR_l0 : Rg l0) (h : F_Content_sumOfLanes O n l0 M = some q) : zFr Rg M q.2 := g_Content_sumOfLanes_0 n l0 M hcl hR_l0 h

set_option maxRecDepth 100000 in
set_option maxHeartbeats 4000000 in
theorem g_Content_wideSum_139 {Rg : Nat → Prop} {O : zO} {q : Int64 × zM} : ∀ (n : Nat) (l0 : Nat) (l1 : Int32) (l2 : Int64) (M : zM), zCl Rg M → Rg l0 → f_Content_wideSum_139 O n l0 l1 l2 M = some q → zFr Rg M q.2 := by
  intro n
  induction n with
  | zero => intro l0 l1 l2 M hcl hR_l0 h; rw [f_Content_wideSum_139] at h; cases h
  | succ n ih =>
    intro l0 l1 l2 M hcl hR_l0 h
    rw [f_Content_wideSum_139] at h
    have g := zFr.rf hcl
    obtain ⟨h1, h⟩ := zif h
    have r5 : Rg (z_p M l0 0) := g.cl _ _ hR_l0
    obtain ⟨h2, h⟩ := zif h
    by_cases c15 : (z_i M (z_p M l0 0) 1) ≤ l1
    · have h := zift h c15
      obtain ⟨v3, e4, h⟩ := zlet_ex h
      obtain ⟨v5, e6, h⟩ := zlet_ex h
      obtain rfl := z_res h
      exact g
    · have h := ziff h c15
      have r6 : Rg (z_p M l0 0) := g.cl _ _ hR_l0
      obtain ⟨q7, c8, h⟩ := zbd h
      have g := g.tr (G_Row_at g.cl r6 c8)
      obtain ⟨q9, c10, h⟩ := zbd h
      have g := g.tr (G_JLong_rotateLeft g.cl c10)
      obtain ⟨v11, e12, h⟩ := zlet_ex h
      obtain ⟨v13, e14, h⟩ := zlet_ex h
      exact g.tr (ih l0 v13 v11 q9.2 g.cl hR_l0 h)
set_option maxRecDepth 100000 in
set_option maxHeartbeats 4000000 in
theorem g_Content_wideSum_44 {Rg : Nat → Prop} {O : zO} {q : Int64 × zM} : ∀ (n : Nat) (l0 : Nat) (l1 : Int32) (l2 : Int64) (M : zM), zCl Rg M → Rg l0 → f_Content_wideSum_44 O n l0 l1 l2 M = some q → zFr Rg M q.2 := by
  intro n
  induction n with
  | zero => intro l0 l1 l2 M hcl hR_l0 h; rw [f_Content_wideSum_44] at h; cases h
  | succ n ih =>
    intro l0 l1 l2 M hcl hR_l0 h
    rw [f_Content_wideSum_44] at h
    have g := zFr.rf hcl
    obtain ⟨h1, h⟩ := zif h
    have r1 : Rg (z_p M l0 0) := g.cl _ _ hR_l0
    obtain ⟨h2, h⟩ := zif h
    by_cases c22 : ((z_i M (z_p M l0 0) 1) - (8 : Int32)) < l1
    · have h := zift h c22
      have r2 : Rg (z_p M l0 0) := g.cl _ _ hR_l0
      by_cases c11 : ((z_i M (z_p M l0 0) 1) - (4 : Int32)) < l1
      · have h := zift h c11
        exact g.tr (g_Content_wideSum_139 n l0 l1 l2 M g.cl hR_l0 h)
      · have h := ziff h c11
        have r3 : Rg (z_p M l0 0) := g.cl _ _ hR_l0
        obtain ⟨q3, c4, h⟩ := zbd h
        have g := g.tr (G_Row_number g.cl r3 c4)
        obtain ⟨q5, c6, h⟩ := zbd h
        have g := g.tr (G_JLong_rotateLeft g.cl c6)
        obtain ⟨v7, e8, h⟩ := zlet_ex h
        obtain ⟨v9, e10, h⟩ := zlet_ex h
        exact g.tr (g_Content_wideSum_139 n l0 v9 v7 q5.2 g.cl hR_l0 h)
    · have h := ziff h c22
      have r4 : Rg (z_p M l0 0) := g.cl _ _ hR_l0
      obtain ⟨q12, c13, h⟩ := zbd h
      have g := g.tr (G_Row_number g.cl r4 c13)
      obtain ⟨q14, c15, h⟩ := zbd h
      have g := g.tr (G_Content_mixed g.cl c15)
      obtain ⟨q16, c17, h⟩ := zbd h
      have g := g.tr (G_JLong_rotateLeft g.cl c17)
      obtain ⟨v18, e19, h⟩ := zlet_ex h
      obtain ⟨v20, e21, h⟩ := zlet_ex h
      exact g.tr (ih l0 v20 v18 q16.2 g.cl hR_l0 h)
set_option maxRecDepth 100000 in
set_option maxHeartbeats 4000000 in
theorem g_Content_wideSum_36 {Rg : Nat → Prop} {O : zO} {q : Int64 × zM} : ∀ (n : Nat) (l0 : Nat) (l1 : Int32) (l2 : Int64) (M : zM), zCl Rg M → Rg l0 → f_Content_wideSum_36 O n l0 l1 l2 M = some q → zFr Rg M q.2 := by
  intro n l0 l1 l2 M hcl hR_l0 h
  rw [f_Content_wideSum_36] at h
  have g := zFr.rf hcl
  obtain ⟨h1, h⟩ := zif h
  obtain ⟨q2, c3, h⟩ := zbd h
  have g := g.tr (G_Content_ofFrame g.cl hR_l0 c3)
  obtain ⟨v4, e5, h⟩ := zlet_ex h
  exact g.tr (g_Content_wideSum_44 n l0 l1 v4 q2.2 g.cl hR_l0 h)
set_option maxRecDepth 100000 in
set_option maxHeartbeats 4000000 in
theorem g_Content_wideSum_0 {Rg : Nat → Prop} {O : zO} {q : Int64 × zM} : ∀ (n : Nat) (l0 : Nat) (M : zM), zCl Rg M → Rg l0 → f_Content_wideSum_0 O n l0 M = some q → zFr Rg M q.2 := by
  intro n l0 M hcl hR_l0 h
  rw [f_Content_wideSum_0] at h
  have g := zFr.rf hcl
  obtain ⟨h1, h⟩ := zif h
  obtain ⟨v2, e3, h⟩ := zlet_ex h
  obtain ⟨q4, c5, h⟩ := zbd h
  have g := g.tr (G_Content_ofFrame g.cl hR_l0 c5)
  by_cases c14 : q4.1 < (32 : Int32)
  · have h := zift h c14
    exact g.tr (g_Content_wideSum_36 n l0 v2 (2870177450012600261 : Int64) q4.2 g.cl hR_l0 h)
  · have h := ziff h c14
    obtain ⟨h6, h⟩ := zif h
    obtain ⟨q7, c8, h⟩ := zbd h
    have g := g.tr (G_Content_sumOfLanes g.cl hR_l0 c8)
    obtain ⟨h9, h⟩ := zif h
    obtain ⟨q10, c11, h⟩ := zbd h
    have g := g.tr (G_Content_ofFrame g.cl hR_l0 c11)
    obtain ⟨v12, e13, h⟩ := zlet_ex h
    exact g.tr (g_Content_wideSum_36 n l0 v12 q7.1 q10.2 g.cl hR_l0 h)
theorem G_Content_wideSum {Rg : Nat → Prop} {O : zO} {n : Nat} {l0 : Nat} {M : zM} {q : Int64 × zM} (hcl : zCl Rg M) (hR_l0 : Rg l0) (h : F_Content_wideSum O n l0 M = some q) : zFr Rg M q.2 := g_Content_wideSum_0 n l0 M hcl hR_l0 h

set_option maxRecDepth 100000 in
set_option maxHeartbeats 4000000 in
theorem g_FR_endFrame_115 {Rg : Nat → Prop} {O : zO} {q : Int32 × zM} : ∀ (n : Nat) (M : zM), zCl Rg M → f_FR_endFrame_115 O n M = some q → zFr Rg M q.2 := by
  intro n M hcl h
  rw [f_FR_endFrame_115] at h
  have g := zFr.rf hcl
  obtain rfl := z_res h
  exact g
set_option maxRecDepth 100000 in
set_option maxHeartbeats 4000000 in
theorem g_FR_endFrame_78 {Rg : Nat → Prop} {O : zO} {q : Int32 × zM} : ∀ (n : Nat) (l0 : Nat) (M : zM), zCl Rg M → Rg l0 → f_FR_endFrame_78 O n l0 M = some q → zFr Rg M q.2 := by
  intro n l0 M hcl hR_l0 h
  rw [f_FR_endFrame_78] at h
  have g := zFr.rf hcl
  obtain ⟨h1, h⟩ := zif h
  by_cases c11 : (z_i M l0 9) = 0
  · have h := zift h c11
    exact g.tr (g_FR_endFrame_115 n M g.cl h)
  · have h := ziff h c11
    have r4 : Rg (z_p M l0 3) := g.cl _ _ hR_l0
    obtain ⟨h2, h⟩ := zif h
    obtain ⟨q3, c4, h⟩ := zbd h
    have g := g.tr (G_Content_ofFrame g.cl r4 c4)
    by_cases c10 : (lg_cmp (z_j M l0 10) q3.1.toInt64) = 0
    · have h := zift h c10
      exact g.tr (g_FR_endFrame_115 n q3.2 g.cl h)
    · have h := ziff h c10
      obtain ⟨h5, h⟩ := zif h
      have r5 : Rg (z_p q3.2 l0 2) := g.cl _ _ hR_l0
      obtain ⟨h6, h⟩ := zif h
      obtain ⟨q7, c8, h⟩ := zbd h
      have g := g.tr (G_Rep_fail g.cl r5 c8)
      obtain ⟨h9, h⟩ := zif h
      obtain rfl := z_res h
      exact g
set_option maxRecDepth 100000 in
set_option maxHeartbeats 4000000 in
theorem g_FR_endFrame_0 {Rg : Nat → Prop} {O : zO} {q : Int32 × zM} : ∀ (n : Nat) (l0 : Nat) (M : zM), zCl Rg M → Rg l0 → f_FR_endFrame_0 O n l0 M = some q → zFr Rg M q.2 := by
  intro n l0 M hcl hR_l0 h
  rw [f_FR_endFrame_0] at h
  have g := zFr.rf hcl
  obtain ⟨h1, h⟩ := zif h
  obtain ⟨M2, e3, h⟩ := zlet_ex h
  have g := g.i hR_l0 e3
  have h4 := k_i e3 h1
  by_cases c30 : (z_i M2 l0 8) = 0
  · have h := zift h c30
    exact g.tr (g_FR_endFrame_78 n l0 M2 g.cl hR_l0 h)
  · have h := ziff h c30
    obtain ⟨q5, c6, h⟩ := zbd h
    have g := g.tr (G_FR_lacks g.cl hR_l0 c6)
    by_cases c29 : q5.1 = 0
    · have h := zift h c29
      obtain ⟨h7, h⟩ := zif h
      have r1 : Rg (z_p q5.2 l0 0) := g.cl _ _ hR_l0
      obtain ⟨h8, h⟩ := zif h
      obtain ⟨q9, c10, h⟩ := zbd h
      have g := g.tr (G_Row_number g.cl r1 c10)
      obtain ⟨h11, h⟩ := zif h
      have r2 : Rg (z_p q9.2 l0 3) := g.cl _ _ hR_l0
      obtain ⟨h12, h⟩ := zif h
      obtain ⟨q13, c14, h⟩ := zbd h
      have g := g.tr (G_Content_wideSum g.cl r2 c14)
      by_cases c24 : (lg_cmp q9.1 (q13.1 &&& (4294967295 : Int64))) = 0
      · have h := zift h c24
        obtain ⟨h15, h⟩ := zif h
        obtain ⟨M16, e17, h⟩ := zlet_ex h
        have g := g.i hR_l0 e17
        have h18 := k_i e17 h15
        exact g.tr (g_FR_endFrame_78 n l0 M16 g.cl hR_l0 h)
      · have h := ziff h c24
        obtain ⟨h19, h⟩ := zif h
        have r3 : Rg (z_p q13.2 l0 2) := g.cl _ _ hR_l0
        obtain ⟨h20, h⟩ := zif h
        obtain ⟨q21, c22, h⟩ := zbd h
        have g := g.tr (G_Rep_fail g.cl r3 c22)
        obtain ⟨h23, h⟩ := zif h
        obtain rfl := z_res h
        exact g
    · have h := ziff h c29
      obtain ⟨h25, h⟩ := zif h
      obtain ⟨q26, c27, h⟩ := zbd h
      have g := g.tr (G_FR_endsWithin g.cl hR_l0 c27)
      obtain ⟨h28, h⟩ := zif h
      obtain rfl := z_res h
      exact g
theorem G_FR_endFrame {Rg : Nat → Prop} {O : zO} {n : Nat} {l0 : Nat} {M : zM} {q : Int32 × zM} (hcl : zCl Rg M) (hR_l0 : Rg l0) (h : F_FR_endFrame O n l0 M = some q) : zFr Rg M q.2 := g_FR_endFrame_0 n l0 M hcl hR_l0 h

set_option maxRecDepth 100000 in
set_option maxHeartbeats 4000000 in
theorem g_FR_block_236 {Rg : Nat → Prop} {O : zO} {q : Int32 × zM} : ∀ (n : Nat) (s0 : Int32) (M : zM), zCl Rg M → f_FR_block_236 O n s0 M = some q → zFr Rg M q.2 := by
  intro n s0 M hcl h
  rw [f_FR_block_236] at h
  have g := zFr.rf hcl
  obtain ⟨h1, h⟩ := zif h
  obtain rfl := z_res h
  exact g
set_option maxRecDepth 100000 in
set_option maxHeartbeats 4000000 in
theorem g_FR_block_231 {Rg : Nat → Prop} {O : zO} {q : Int32 × zM} : ∀ (n : Nat) (M : zM), zCl Rg M → f_FR_block_231 O n M = some q → zFr Rg M q.2 := by
  intro n M hcl h
  rw [f_FR_block_231] at h
  have g := zFr.rf hcl
  exact g.tr (g_FR_block_236 n (1 : Int32) M g.cl h)
set_option maxRecDepth 100000 in
set_option maxHeartbeats 4000000 in
theorem g_FR_block_203 {Rg : Nat → Prop} {O : zO} {q : Int32 × zM} : ∀ (n : Nat) (l0 : Nat) (l1 : Int32) (l5 : Int32) (s0 : Int32) (M : zM), zCl Rg M → Rg l0 → f_FR_block_203 O n l0 l1 l5 s0 M = some q → zFr Rg M q.2 := by
  intro n l0 l1 l5 s0 M hcl hR_l0 h
  rw [f_FR_block_203] at h
  have g := zFr.rf hcl
  by_cases c9 : s0 = 0
  · have h := zift h c9
    obtain rfl := z_res h
    exact g
  · have h := ziff h c9
    obtain ⟨h1, h⟩ := zif h
    obtain ⟨M2, e3, h⟩ := zlet_ex h
    have g := g.i hR_l0 e3
    have h4 := k_i e3 h1
    by_cases c8 : (l1 &&& (1 : Int32)) = 0
    · have h := zift h c8
      exact g.tr (g_FR_block_231 n M2 g.cl h)
    · have h := ziff h c8
      obtain ⟨q5, c6, h⟩ := zbd h
      have g := g.tr (G_FR_endFrame g.cl hR_l0 c6)
      by_cases c7 : q5.1 = 0
      · have h := zift h c7
        exact g.tr (g_FR_block_236 n (0 : Int32) q5.2 g.cl h)
      · have h := ziff h c7
        exact g.tr (g_FR_block_231 n q5.2 g.cl h)
set_option maxRecDepth 100000 in
set_option maxHeartbeats 4000000 in
theorem g_FR_block_202 {Rg : Nat → Prop} {O : zO} {q : Int32 × zM} : ∀ (n : Nat) (l0 : Nat) (l1 : Int32) (l5 : Int32) (M : zM), zCl Rg M → Rg l0 → f_FR_block_202 O n l0 l1 l5 M = some q → zFr Rg M q.2 := by
  intro n l0 l1 l5 M hcl hR_l0 h
  rw [f_FR_block_202] at h
  have g := zFr.rf hcl
  exact g.tr (g_FR_block_203 n l0 l1 l5 (0 : Int32) M g.cl hR_l0 h)
set_option maxRecDepth 100000 in
set_option maxHeartbeats 4000000 in
theorem g_FR_block_115 {Rg : Nat → Prop} {O : zO} {q : Int32 × zM} : ∀ (n : Nat) (l0 : Nat) (l1 : Int32) (l2 : Int32) (l3 : Int32) (l4 : Int32) (s0 : Int32) (s1 : Int32) (M : zM), zCl Rg M → Rg l0 → f_FR_block_115 O n l0 l1 l2 l3 l4 s0 s1 M = some q → zFr Rg M q.2 := by
  intro n l0 l1 l2 l3 l4 s0 s1 M hcl hR_l0 h
  rw [f_FR_block_115] at h
  have g := zFr.rf hcl
  obtain ⟨v1, e2, h⟩ := zlet_ex h
  obtain ⟨h3, h⟩ := zif h
  have r6 : Rg (z_p M l0 0) := g.cl _ _ hR_l0
  obtain ⟨h4, h⟩ := zif h
  by_cases c29 : v1 ≤ (z_i M (z_p M l0 0) 1)
  · have h := zift h c29
    have r7 : Rg (z_p M l0 3) := g.cl _ _ hR_l0
    obtain ⟨h5, h⟩ := zif h
    obtain ⟨q6, c7, h⟩ := zbd h
    have g := g.tr (G_Content_startBlock g.cl r7 c7)
    by_cases c25 : (2 : Int32) ≤ l2
    · have h := zift h c25
      obtain ⟨h8, h⟩ := zif h
      have r8 : Rg (z_p q6.2 l0 4) := g.cl _ _ hR_l0
      have r9 : Rg (z_p q6.2 l0 3) := g.cl _ _ hR_l0
      obtain ⟨h9, h⟩ := zif h
      obtain ⟨q10, c11, h⟩ := zbd h
      have g := g.tr (G_Content_mostOfBlock g.cl r9 c11)
      obtain ⟨h12, h⟩ := zif h
      obtain ⟨q13, c14, h⟩ := zbd h
      have g := g.tr (G_Lit_take g.cl r8 c14)
      by_cases c21 : q13.1 = 0
      · have h := zift h c21
        exact g.tr (g_FR_block_202 n l0 l1 v1 q13.2 g.cl hR_l0 h)
      · have h := ziff h c21
        obtain ⟨h15, h⟩ := zif h
        have r10 : Rg (z_p q13.2 l0 5) := g.cl _ _ hR_l0
        have r11 : Rg (z_p q13.2 l0 4) := g.cl _ _ hR_l0
        obtain ⟨h16, h⟩ := zif h
        obtain ⟨h17, h⟩ := zif h
        obtain ⟨q18, c19, h⟩ := zbd h
        have g := g.tr (G_Seq_take g.cl r10 c19)
        by_cases c20 : q18.1 = 0
        · have h := zift h c20
          exact g.tr (g_FR_block_202 n l0 l1 v1 q18.2 g.cl hR_l0 h)
        · have h := ziff h c20
          exact g.tr (g_FR_block_203 n l0 l1 v1 (1 : Int32) q18.2 g.cl hR_l0 h)
    · have h := ziff h c25
      obtain ⟨h22, h⟩ := zif h
      obtain ⟨q23, c24, h⟩ := zbd h
      have g := g.tr (G_FR_plain g.cl hR_l0 c24)
      exact g.tr (g_FR_block_203 n l0 l1 v1 q23.1 q23.2 g.cl hR_l0 h)
  · have h := ziff h c29
    obtain ⟨q26, c27, h⟩ := zbd h
    have g := g.tr (G_FR_endsWithin g.cl hR_l0 c27)
    obtain ⟨h28, h⟩ := zif h
    obtain rfl := z_res h
    exact g
set_option maxRecDepth 100000 in
set_option maxHeartbeats 4000000 in
theorem g_FR_block_0 {Rg : Nat → Prop} {O : zO} {q : Int32 × zM} : ∀ (n : Nat) (l0 : Nat) (M : zM), zCl Rg M → Rg l0 → f_FR_block_0 O n l0 M = some q → zFr Rg M q.2 := by
  intro n l0 M hcl hR_l0 h
  rw [f_FR_block_0] at h
  have g := zFr.rf hcl
  obtain ⟨h1, h⟩ := zif h
  obtain ⟨q2, c3, h⟩ := zbd h
  have g := g.tr (G_FR_lacks g.cl hR_l0 c3)
  by_cases c42 : q2.1 = 0
  · have h := zift h c42
    obtain ⟨h4, h⟩ := zif h
    have r1 : Rg (z_p q2.2 l0 0) := g.cl _ _ hR_l0
    obtain ⟨h5, h⟩ := zif h
    obtain ⟨q6, c7, h⟩ := zbd h
    have g := g.tr (G_Row_number g.cl r1 c7)
    obtain ⟨v8, e9, h⟩ := zlet_ex h
    obtain ⟨h10, h⟩ := zif h
    have r2 : Rg (z_p q6.2 l0 2) := g.cl _ _ hR_l0
    obtain ⟨h11, h⟩ := zif h
    obtain ⟨M12, e13, h⟩ := zlet_ex h
    have g := g.i r2 e13
    have h14 := k_i e13 h10
    have h15 := k_i e13 h11
    obtain ⟨v16, e17, h⟩ := zlet_ex h
    obtain ⟨v18, e19, h⟩ := zlet_ex h
    by_cases c37 : v16 = (3 : Int32)
    · have h := zift h c37
      have r5 : Rg (z_p M12 l0 2) := g.cl _ _ hR_l0
      obtain ⟨h33, h⟩ := zif h
      obtain ⟨q34, c35, h⟩ := zbd h
      have g := g.tr (G_Rep_fail g.cl r5 c35)
      obtain ⟨h36, h⟩ := zif h
      obtain rfl := z_res h
      exact g
    · have h := ziff h c37
      have r3 : Rg (z_p M12 l0 3) := g.cl _ _ hR_l0
      obtain ⟨h20, h⟩ := zif h
      obtain ⟨q21, c22, h⟩ := zbd h
      have g := g.tr (G_Content_mostOfBlock g.cl r3 c22)
      by_cases c32 : v18 ≤ q21.1
      · have h := zift h c32
        obtain ⟨h23, h⟩ := zif h
        obtain ⟨v24, e25, h⟩ := zlet_ex h
        by_cases c26 : v16 = (1 : Int32)
        · have h := zift h c26
          exact g.tr (g_FR_block_115 n l0 v8 v16 v18 v24 v24 (1 : Int32) q21.2 g.cl hR_l0 h)
        · have h := ziff h c26
          exact g.tr (g_FR_block_115 n l0 v8 v16 v18 v24 v24 v18 q21.2 g.cl hR_l0 h)
      · have h := ziff h c32
        obtain ⟨h27, h⟩ := zif h
        have r4 : Rg (z_p q21.2 l0 2) := g.cl _ _ hR_l0
        obtain ⟨h28, h⟩ := zif h
        obtain ⟨q29, c30, h⟩ := zbd h
        have g := g.tr (G_Rep_fail g.cl r4 c30)
        obtain ⟨h31, h⟩ := zif h
        obtain rfl := z_res h
        exact g
  · have h := ziff h c42
    obtain ⟨h38, h⟩ := zif h
    obtain ⟨q39, c40, h⟩ := zbd h
    have g := g.tr (G_FR_endsWithin g.cl hR_l0 c40)
    obtain ⟨h41, h⟩ := zif h
    obtain rfl := z_res h
    exact g
theorem G_FR_block {Rg : Nat → Prop} {O : zO} {n : Nat} {l0 : Nat} {M : zM} {q : Int32 × zM} (hcl : zCl Rg M) (hR_l0 : Rg l0) (h : F_FR_block O n l0 M = some q) : zFr Rg M q.2 := g_FR_block_0 n l0 M hcl hR_l0 h

set_option maxRecDepth 100000 in
set_option maxHeartbeats 4000000 in
theorem g_FR_setWindow_27 {Rg : Nat → Prop} {O : zO} {q : Unit × zM} : ∀ (n : Nat) (s0 : Nat) (s1 : Int32) (M : zM), zCl Rg M → Rg s0 → f_FR_setWindow_27 O n s0 s1 M = some q → zFr Rg M q.2 := by
  intro n s0 s1 M hcl hR_s0 h
  rw [f_FR_setWindow_27] at h
  have g := zFr.rf hcl
  obtain ⟨h1, h⟩ := zif h
  obtain ⟨M2, e3, h⟩ := zlet_ex h
  have g := g.i hR_s0 e3
  have h4 := k_i e3 h1
  obtain rfl := z_res h
  exact g
set_option maxRecDepth 100000 in
set_option maxHeartbeats 4000000 in
theorem g_FR_setWindow_0 {Rg : Nat → Prop} {O : zO} {q : Unit × zM} : ∀ (n : Nat) (l0 : Nat) (l1 : Int64) (M : zM), zCl Rg M → Rg l0 → f_FR_setWindow_0 O n l0 l1 M = some q → zFr Rg M q.2 := by
  intro n l0 l1 M hcl hR_l0 h
  rw [f_FR_setWindow_0] at h
  have g := zFr.rf hcl
  obtain ⟨h1, h⟩ := zif h
  have r1 : Rg (z_p M l0 3) := g.cl _ _ hR_l0
  obtain ⟨h2, h⟩ := zif h
  obtain ⟨M3, e4, h⟩ := zlet_ex h
  have g := g.j r1 e4
  have h5 := k_j e4 h1
  have h6 := k_j e4 h2
  have r2 : Rg (z_p M3 l0 2) := g.cl _ _ hR_l0
  by_cases c7 : 0 ≤ (lg_cmp l1 (2147483647 : Int64))
  · have h := zift h c7
    exact g.tr (g_FR_setWindow_27 n (z_p M3 l0 2) (2147483647 : Int32) M3 g.cl r2 h)
  · have h := ziff h c7
    exact g.tr (g_FR_setWindow_27 n (z_p M3 l0 2) l1.toInt32 M3 g.cl r2 h)
theorem G_FR_setWindow {Rg : Nat → Prop} {O : zO} {n : Nat} {l0 : Nat} {l1 : Int64} {M : zM} {q : Unit × zM} (hcl : zCl Rg M) (hR_l0 : Rg l0) (h : F_FR_setWindow O n l0 l1 M = some q) : zFr Rg M q.2 := g_FR_setWindow_0 n l0 l1 M hcl hR_l0 h

set_option maxRecDepth 100000 in
set_option maxHeartbeats 4000000 in
theorem g_FR_window_0 {Rg : Nat → Prop} {O : zO} {q : Int32 × zM} : ∀ (n : Nat) (l0 : Nat) (M : zM), zCl Rg M → Rg l0 → f_FR_window_0 O n l0 M = some q → zFr Rg M q.2 := by
  intro n l0 M hcl hR_l0 h
  rw [f_FR_window_0] at h
  have g := zFr.rf hcl
  obtain ⟨h1, h⟩ := zif h
  obtain ⟨q2, c3, h⟩ := zbd h
  have g := g.tr (G_FR_lacks g.cl hR_l0 c3)
  by_cases c26 : q2.1 = 0
  · have h := zift h c26
    obtain ⟨h4, h⟩ := zif h
    have r1 : Rg (z_p q2.2 l0 0) := g.cl _ _ hR_l0
    obtain ⟨h5, h⟩ := zif h
    obtain ⟨q6, c7, h⟩ := zbd h
    have g := g.tr (G_Row_at g.cl r1 c7)
    obtain ⟨v8, e9, h⟩ := zlet_ex h
    obtain ⟨h10, h⟩ := zif h
    have r2 : Rg (z_p q6.2 l0 0) := g.cl _ _ hR_l0
    obtain ⟨h11, h⟩ := zif h
    obtain ⟨q12, c13, h⟩ := zbd h
    have g := g.tr (G_Row_at g.cl r2 c13)
    obtain ⟨v14, e15, h⟩ := zlet_ex h
    obtain ⟨h16, h⟩ := zif h
    obtain ⟨M17, e18, h⟩ := zlet_ex h
    have g := g.i hR_l0 e18
    have h19 := k_i e18 h16
    obtain ⟨q20, c21, h⟩ := zbd h
    have g := g.tr (G_FR_setWindow g.cl hR_l0 c21)
    obtain rfl := z_res h
    exact g
  · have h := ziff h c26
    obtain ⟨h22, h⟩ := zif h
    obtain ⟨q23, c24, h⟩ := zbd h
    have g := g.tr (G_FR_endsWithin g.cl hR_l0 c24)
    obtain ⟨h25, h⟩ := zif h
    obtain rfl := z_res h
    exact g
theorem G_FR_window {Rg : Nat → Prop} {O : zO} {n : Nat} {l0 : Nat} {M : zM} {q : Int32 × zM} (hcl : zCl Rg M) (hR_l0 : Rg l0) (h : F_FR_window O n l0 M = some q) : zFr Rg M q.2 := g_FR_window_0 n l0 M hcl hR_l0 h

set_option maxRecDepth 100000 in
set_option maxHeartbeats 4000000 in
theorem g_FR_idFits_58 {Rg : Nat → Prop} {O : zO} {q : Int32 × zM} : ∀ (n : Nat) (l0 : Nat) (l1 : Int32) (M : zM), zCl Rg M → Rg l0 → f_FR_idFits_58 O n l0 l1 M = some q → zFr Rg M q.2 := by
  intro n l0 l1 M hcl hR_l0 h
  rw [f_FR_idFits_58] at h
  have g := zFr.rf hcl
  obtain ⟨h1, h⟩ := zif h
  obtain ⟨M2, e3, h⟩ := zlet_ex h
  have g := g.i hR_l0 e3
  have h4 := k_i e3 h1
  obtain rfl := z_res h
  exact g
set_option maxRecDepth 100000 in
set_option maxHeartbeats 4000000 in
theorem g_FR_idFits_0 {Rg : Nat → Prop} {O : zO} {q : Int32 × zM} : ∀ (n : Nat) (l0 : Nat) (l1 : Int32) (M : zM), zCl Rg M → Rg l0 → f_FR_idFits_0 O n l0 l1 M = some q → zFr Rg M q.2 := by
  intro n l0 l1 M hcl hR_l0 h
  rw [f_FR_idFits_0] at h
  have g := zFr.rf hcl
  obtain ⟨h1, h⟩ := zif h
  obtain ⟨q2, c3, h⟩ := zbd h
  have g := g.tr (G_FR_lacks g.cl hR_l0 c3)
  by_cases c20 : q2.1 = 0
  · have h := zift h c20
    obtain ⟨h4, h⟩ := zif h
    have r1 : Rg (z_p q2.2 l0 0) := g.cl _ _ hR_l0
    obtain ⟨h5, h⟩ := zif h
    obtain ⟨q6, c7, h⟩ := zbd h
    have g := g.tr (G_Row_number g.cl r1 c7)
    by_cases c15 : (lg_cmp q6.1 (0 : Int64)) = 0
    · have h := zift h c15
      exact g.tr (g_FR_idFits_58 n l0 l1 q6.2 g.cl hR_l0 h)
    · have h := ziff h c15
      obtain ⟨h8, h⟩ := zif h
      have r2 : Rg (z_p q6.2 l0 1) := g.cl _ _ hR_l0
      obtain ⟨h9, h⟩ := zif h
      by_cases c14 : (lg_cmp q6.1 (z_j q6.2 (z_p q6.2 l0 1) 2)) = 0
      · have h := zift h c14
        exact g.tr (g_FR_idFits_58 n l0 l1 q6.2 g.cl hR_l0 h)
      · have h := ziff h c14
        have r3 : Rg (z_p q6.2 l0 2) := g.cl _ _ hR_l0
        obtain ⟨h10, h⟩ := zif h
        obtain ⟨q11, c12, h⟩ := zbd h
        have g := g.tr (G_Rep_fail g.cl r3 c12)
        obtain ⟨h13, h⟩ := zif h
        obtain rfl := z_res h
        exact g
  · have h := ziff h c20
    obtain ⟨h16, h⟩ := zif h
    obtain ⟨q17, c18, h⟩ := zbd h
    have g := g.tr (G_FR_endsWithin g.cl hR_l0 c18)
    obtain ⟨h19, h⟩ := zif h
    obtain rfl := z_res h
    exact g
theorem G_FR_idFits {Rg : Nat → Prop} {O : zO} {n : Nat} {l0 : Nat} {l1 : Int32} {M : zM} {q : Int32 × zM} (hcl : zCl Rg M) (hR_l0 : Rg l0) (h : F_FR_idFits O n l0 l1 M = some q) : zFr Rg M q.2 := g_FR_idFits_0 n l0 l1 M hcl hR_l0 h

set_option maxRecDepth 100000 in
set_option maxHeartbeats 4000000 in
theorem g_FR_sizeTold_122 {Rg : Nat → Prop} {O : zO} {q : Int32 × zM} : ∀ (n : Nat) (M : zM), zCl Rg M → f_FR_sizeTold_122 O n M = some q → zFr Rg M q.2 := by
  intro n M hcl h
  rw [f_FR_sizeTold_122] at h
  have g := zFr.rf hcl
  obtain rfl := z_res h
  exact g
set_option maxRecDepth 100000 in
set_option maxHeartbeats 4000000 in
theorem g_FR_sizeTold_119 {Rg : Nat → Prop} {O : zO} {q : Int32 × zM} : ∀ (n : Nat) (s0 : Nat) (s1 : Int64) (M : zM), zCl Rg M → Rg s0 → f_FR_sizeTold_119 O n s0 s1 M = some q → zFr Rg M q.2 := by
  intro n s0 s1 M hcl hR_s0 h
  rw [f_FR_sizeTold_119] at h
  have g := zFr.rf hcl
  obtain ⟨h1, h⟩ := zif h
  obtain ⟨q2, c3, h⟩ := zbd h
  have g := g.tr (G_FR_setWindow g.cl hR_s0 c3)
  exact g.tr (g_FR_sizeTold_122 n q2.2 g.cl h)
set_option maxRecDepth 100000 in
set_option maxHeartbeats 4000000 in
theorem g_FR_sizeTold_80 {Rg : Nat → Prop} {O : zO} {q : Int32 × zM} : ∀ (n : Nat) (l0 : Nat) (l2 : Int32) (l3 : Int32) (s0 : Nat) (s1 : Int64) (s2 : Int32) (M : zM), zCl Rg M → Rg l0 → Rg s0 → f_FR_sizeTold_80 O n l0 l2 l3 s0 s1 s2 M = some q → zFr Rg M q.2 := by
  intro n l0 l2 l3 s0 s1 s2 M hcl hR_l0 hR_s0 h
  rw [f_FR_sizeTold_80] at h
  have g := zFr.rf hcl
  obtain ⟨h1, h⟩ := zif h
  obtain ⟨M2, e3, h⟩ := zlet_ex h
  have g := g.j hR_s0 e3
  have h4 := k_j e3 h1
  obtain ⟨h5, h⟩ := zif h
  obtain ⟨M6, e7, h⟩ := zlet_ex h
  have g := g.i hR_l0 e7
  have h8 := k_i e7 h4
  have h9 := k_i e7 h5
  by_cases c11 : l2 = 0
  · have h := zift h c11
    exact g.tr (g_FR_sizeTold_122 n M6 g.cl h)
  · have h := ziff h c11
    by_cases c10 : 0 ≤ (lg_cmp (z_j M6 l0 10) (0 : Int64))
    · have h := zift h c10
      exact g.tr (g_FR_sizeTold_119 n l0 (z_j M6 l0 10) M6 g.cl hR_l0 h)
    · have h := ziff h c10
      exact g.tr (g_FR_sizeTold_119 n l0 (9223372036854775807 : Int64) M6 g.cl hR_l0 h)
set_option maxRecDepth 100000 in
set_option maxHeartbeats 4000000 in
theorem g_FR_sizeTold_44 {Rg : Nat → Prop} {O : zO} {q : Int32 × zM} : ∀ (n : Nat) (l0 : Nat) (l2 : Int32) (l3 : Int32) (s0 : Nat) (s1 : Int32) (M : zM), zCl Rg M → Rg l0 → Rg s0 → f_FR_sizeTold_44 O n l0 l2 l3 s0 s1 M = some q → zFr Rg M q.2 := by
  intro n l0 l2 l3 s0 s1 M hcl hR_l0 hR_s0 h
  rw [f_FR_sizeTold_44] at h
  have g := zFr.rf hcl
  obtain ⟨h1, h⟩ := zif h
  obtain ⟨h2, h⟩ := zif h
  obtain ⟨M3, e4, h⟩ := zlet_ex h
  have g := g.i hR_s0 e4
  have h5 := k_i e4 h1
  obtain ⟨h6, h⟩ := zif h
  obtain ⟨M7, e8, h⟩ := zlet_ex h
  have g := g.i hR_l0 e8
  have h9 := k_i e8 h5
  have h10 := k_i e8 h6
  have r1 : Rg (z_p M7 l0 0) := g.cl _ _ hR_l0
  obtain ⟨h11, h⟩ := zif h
  obtain ⟨q12, c13, h⟩ := zbd h
  have g := g.tr (G_Row_number g.cl r1 c13)
  by_cases c14 : l3 = (2 : Int32)
  · have h := zift h c14
    exact g.tr (g_FR_sizeTold_80 n l0 l2 l3 l0 q12.1 (256 : Int32) q12.2 g.cl hR_l0 hR_l0 h)
  · have h := ziff h c14
    exact g.tr (g_FR_sizeTold_80 n l0 l2 l3 l0 q12.1 (0 : Int32) q12.2 g.cl hR_l0 hR_l0 h)
set_option maxRecDepth 100000 in
set_option maxHeartbeats 4000000 in
theorem g_FR_sizeTold_19 {Rg : Nat → Prop} {O : zO} {q : Int32 × zM} : ∀ (n : Nat) (l0 : Nat) (l2 : Int32) (s0 : Int32) (M : zM), zCl Rg M → Rg l0 → f_FR_sizeTold_19 O n l0 l2 s0 M = some q → zFr Rg M q.2 := by
  intro n l0 l2 s0 M hcl hR_l0 h
  rw [f_FR_sizeTold_19] at h
  have g := zFr.rf hcl
  obtain ⟨h1, h⟩ := zif h
  obtain ⟨q2, c3, h⟩ := zbd h
  have g := g.tr (G_FR_lacks g.cl hR_l0 c3)
  by_cases c9 : q2.1 = 0
  · have h := zift h c9
    by_cases c4 : s0 ≤ 0
    · have h := zift h c4
      exact g.tr (g_FR_sizeTold_44 n l0 l2 s0 l0 (0 : Int32) q2.2 g.cl hR_l0 hR_l0 h)
    · have h := ziff h c4
      exact g.tr (g_FR_sizeTold_44 n l0 l2 s0 l0 (1 : Int32) q2.2 g.cl hR_l0 hR_l0 h)
  · have h := ziff h c9
    obtain ⟨h5, h⟩ := zif h
    obtain ⟨q6, c7, h⟩ := zbd h
    have g := g.tr (G_FR_endsWithin g.cl hR_l0 c7)
    obtain ⟨h8, h⟩ := zif h
    obtain rfl := z_res h
    exact g
set_option maxRecDepth 100000 in
set_option maxHeartbeats 4000000 in
theorem g_FR_sizeTold_0 {Rg : Nat → Prop} {O : zO} {q : Int32 × zM} : ∀ (n : Nat) (l0 : Nat) (l1 : Int32) (l2 : Int32) (M : zM), zCl Rg M → Rg l0 → f_FR_sizeTold_0 O n l0 l1 l2 M = some q → zFr Rg M q.2 := by
  intro n l0 l1 l2 M hcl hR_l0 h
  rw [f_FR_sizeTold_0] at h
  have g := zFr.rf hcl
  by_cases c2 : l1 ≤ 0
  · have h := zift h c2
    by_cases c1 : l2 = 0
    · have h := zift h c1
      exact g.tr (g_FR_sizeTold_19 n l0 l2 (0 : Int32) M g.cl hR_l0 h)
    · have h := ziff h c1
      exact g.tr (g_FR_sizeTold_19 n l0 l2 (1 : Int32) M g.cl hR_l0 h)
  · have h := ziff h c2
    exact g.tr (g_FR_sizeTold_19 n l0 l2 ((1 : Int32) <<< (l1 &&& 31)) M g.cl hR_l0 h)
theorem G_FR_sizeTold {Rg : Nat → Prop} {O : zO} {n : Nat} {l0 : Nat} {l1 : Int32} {l2 : Int32} {M : zM} {q : Int32 × zM} (hcl : zCl Rg M) (hR_l0 : Rg l0) (h : F_FR_sizeTold O n l0 l1 l2 M = some q) : zFr Rg M q.2 := g_FR_sizeTold_0 n l0 l1 l2 M hcl hR_l0 h

set_option maxRecDepth 100000 in
set_option maxHeartbeats 4000000 in
theorem g_Content_startFrame_0 {Rg : Nat → Prop} {O : zO} {q : Unit × zM} : ∀ (n : Nat) (l0 : Nat) (M : zM), zCl Rg M → Rg l0 → f_Content_startFrame_0 O n l0 M = some q → zFr Rg M q.2 := by
  intro n l0 M hcl hR_l0 h
  rw [f_Content_startFrame_0] at h
  have g := zFr.rf hcl
  obtain ⟨h1, h⟩ := zif h
  have r1 : Rg (z_p M l0 0) := g.cl _ _ hR_l0
  obtain ⟨h2, h⟩ := zif h
  obtain ⟨M3, e4, h⟩ := zlet_ex h
  have g := g.i hR_l0 e4
  have h5 := k_i e4 h1
  have h6 := k_i e4 h2
  obtain rfl := z_res h
  exact g
theorem G_Content_startFrame {Rg : Nat → Prop} {O : zO} {n : Nat} {l0 : Nat} {M : zM} {q : Unit × zM} (hcl : zCl Rg M) (hR_l0 : Rg l0) (h : F_Content_startFrame O n l0 M = some q) : zFr Rg M q.2 := g_Content_startFrame_0 n l0 M hcl hR_l0 h

set_option maxRecDepth 100000 in
set_option maxHeartbeats 4000000 in
theorem g_Lit_startFrame_0 {Rg : Nat → Prop} {O : zO} {q : Unit × zM} : ∀ (n : Nat) (l0 : Nat) (l1 : Nat) (M : zM), zCl Rg M → Rg l0 → Rg l1 → f_Lit_startFrame_0 O n l0 l1 M = some q → zFr Rg M q.2 := by
  intro n l0 l1 M hcl hR_l0 hR_l1 h
  rw [f_Lit_startFrame_0] at h
  have g := zFr.rf hcl
  obtain ⟨h1, h⟩ := zif h
  have r1 : Rg (z_p M l1 4) := g.cl _ _ hR_l1
  obtain ⟨h2, h⟩ := zif h
  obtain ⟨M3, e4, h⟩ := zlet_ex h
  have g := g.p hR_l0 r1 (by rw [h2]; rfl) e4
  have h5 := k_p e4 h1
  have h6 := k_p e4 h2
  obtain ⟨h7, h⟩ := zif h
  obtain ⟨M8, e9, h⟩ := zlet_ex h
  have g := g.i hR_l0 e9
  have h10 := k_i e9 h5
  have h11 := k_i e9 h6
  obtain rfl := z_res h
  exact g
theorem G_Lit_startFrame {Rg : Nat → Prop} {O : zO} {n : Nat} {l0 : Nat} {l1 : Nat} {M : zM} {q : Unit × zM} (hcl : zCl Rg M) (hR_l0 : Rg l0) (hR_l1 : Rg l1) (h : F_Lit_startFrame O n l0 l1 M = some q) : zFr Rg M q.2 := g_Lit_startFrame_0 n l0 l1 M hcl hR_l0 hR_l1 h

set_option maxRecDepth 100000 in
set_option maxHeartbeats 4000000 in
theorem g_Seq_startFrame_83 {Rg : Nat → Prop} {O : zO} {q : Unit × zM} : ∀ (n : Nat) (M : zM), zCl Rg M → f_Seq_startFrame_83 O n M = some q → zFr Rg M q.2 := by
  intro n M hcl h
  rw [f_Seq_startFrame_83] at h
  have g := zFr.rf hcl
  obtain rfl := z_res h
  exact g
set_option maxRecDepth 100000 in
set_option maxHeartbeats 4000000 in
theorem g_Seq_startFrame_2 {Rg : Nat → Prop} {O : zO} {q : Unit × zM} : ∀ (n : Nat) (l0 : Nat) (l1 : Nat) (l2 : Int32) (M : zM), zCl Rg M → Rg l0 → Rg l1 → f_Seq_startFrame_2 O n l0 l1 l2 M = some q → zFr Rg M q.2 := by
  intro n
  induction n with
  | zero => intro l0 l1 l2 M hcl hR_l0 hR_l1 h; rw [f_Seq_startFrame_2] at h; cases h
  | succ n ih =>
    intro l0 l1 l2 M hcl hR_l0 hR_l1 h
    rw [f_Seq_startFrame_2] at h
    have g := zFr.rf hcl
    by_cases c41 : (3 : Int32) ≤ l2
    · have h := zift h c41
      obtain ⟨h1, h⟩ := zif h
      by_cases c13 : (z_i M l1 3) = 0
      · have h := zift h c13
        obtain ⟨h2, h⟩ := zif h
        have r1 : Rg (z_p M l0 5) := g.cl _ _ hR_l0
        obtain ⟨h3, h⟩ := zif h
        obtain ⟨q4, c5, h⟩ := zbd h
        have g := g.tr (G_Latest_set g.cl r1 c5)
        exact g.tr (g_Seq_startFrame_83 n q4.2 g.cl h)
      · have h := ziff h c13
        have r2 : Rg (z_p M l1 1) := g.cl _ _ hR_l1
        obtain ⟨v6, e7, h⟩ := zlet_ex h
        have r3 : Rg v6 := e7 ▸ r2
        obtain ⟨h8, h⟩ := zif h
        have r4 : Rg (z_p M l0 5) := g.cl _ _ hR_l0
        obtain ⟨h9, h⟩ := zif h
        obtain ⟨h10, h⟩ := zif h
        obtain ⟨q11, c12, h⟩ := zbd h
        have g := g.tr (G_Latest_set g.cl r4 c12)
        exact g.tr (g_Seq_startFrame_83 n q11.2 g.cl h)
    · have h := ziff h c41
      obtain ⟨h14, h⟩ := zif h
      have r5 : Rg (z_p M l0 8) := g.cl _ _ hR_l0
      obtain ⟨h15, h⟩ := zif h
      have r6 : Rg (z_p M l1 5) := g.cl _ _ hR_l1
      obtain ⟨h16, h⟩ := zif h
      obtain ⟨h17, h⟩ := zif h
      have r7 : Rg (z_p M (z_p M l1 5) l2.toNatClampNeg) := g.cl _ _ r6
      obtain ⟨h18, h⟩ := zif h
      obtain ⟨h19, h⟩ := zif h
      obtain ⟨h20, h⟩ := zif h
      obtain ⟨M21, e22, h⟩ := zlet_ex h
      have g := g.p r5 r7 (by rw [h18]; rfl) e22
      have h23 := k_p e22 h14
      have h24 := k_p e22 h15
      have h25 := k_p e22 h16
      have h26 := k_p e22 h18
      have h27 := k_p e22 h20
      have r8 : Rg (z_p M21 l0 9) := g.cl _ _ hR_l0
      obtain ⟨h28, h⟩ := zif h
      obtain ⟨h29, h⟩ := zif h
      obtain ⟨h30, h⟩ := zif h
      obtain ⟨M31, e32, h⟩ := zlet_ex h
      have g := g.i r8 e32
      have h33 := k_i e32 h23
      have h34 := k_i e32 h24
      have h35 := k_i e32 h25
      have h36 := k_i e32 h26
      have h37 := k_i e32 h27
      have h38 := k_i e32 h28
      obtain ⟨v39, e40, h⟩ := zlet_ex h
      exact g.tr (ih l0 l1 v39 M31 g.cl hR_l0 hR_l1 h)
set_option maxRecDepth 100000 in
set_option maxHeartbeats 4000000 in
theorem g_Seq_startFrame_0 {Rg : Nat → Prop} {O : zO} {q : Unit × zM} : ∀ (n : Nat) (l0 : Nat) (l1 : Nat) (M : zM), zCl Rg M → Rg l0 → Rg l1 → f_Seq_startFrame_0 O n l0 l1 M = some q → zFr Rg M q.2 := by
  intro n l0 l1 M hcl hR_l0 hR_l1 h
  rw [f_Seq_startFrame_0] at h
  have g := zFr.rf hcl
  exact g.tr (g_Seq_startFrame_2 n l0 l1 (0 : Int32) M g.cl hR_l0 hR_l1 h)
theorem G_Seq_startFrame {Rg : Nat → Prop} {O : zO} {n : Nat} {l0 : Nat} {l1 : Nat} {M : zM} {q : Unit × zM} (hcl : zCl Rg M) (hR_l0 : Rg l0) (hR_l1 : Rg l1) (h : F_Seq_startFrame O n l0 l1 M = some q) : zFr Rg M q.2 := g_Seq_startFrame_0 n l0 l1 M hcl hR_l0 hR_l1 h
