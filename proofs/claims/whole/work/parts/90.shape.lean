/-! The class's shape, and what keeps it. -/
def gr (k : Nat) : Nat := if k = 1 then 8 else 9
/-- the fields that point and never change -/
def pf (kd f : Nat) : Bool := match kd with
  | 1 => decide (f < 6)
  | 2 => decide (f < 5)
  | 3 => decide (f < 2)
  | 4 => decide (f < 2)
  | 5 => decide (f < 6)
  | 7 => decide (f < 5)
  | 9 => decide (f = 0)
  | 10 => decide (f < 11)
  | 11 => decide (2 ≤ f ∧ f < 7)
  | _ => false
def zPf (X kd q f : Nat) : Prop := pf kd f = true ∨ q = X + 31 ∨ q = X + 32 ∨ q = X + 92 ∨ q = X + 93
def zKp (X : Nat) (M M' : zM) : Prop := z_k M' = z_k M ∧ z_n M' = z_n M ∧ z_s M' = z_s M ∧ (∀ q f, zPf X (z_k M q) q f → z_p M' q f = z_p M q f) ∧ ∀ q f, z_k M q = 11 → f < 2 → z_i M' q f = z_i M q f
theorem zKp.rf {X : Nat} {M : zM} : zKp X M M := ⟨rfl, rfl, rfl, fun _ _ _ => rfl, fun _ _ _ _ => rfl⟩
theorem zKp.tr {X : Nat} {M M1 M2 : zM} (h : zKp X M M1) (g : zKp X M1 M2) : zKp X M M2 := by
  obtain ⟨a1, a2, a3, a4, a5⟩ := h
  obtain ⟨b1, b2, b3, b4, b5⟩ := g
  exact ⟨b1.trans a1, b2.trans a2, b3.trans a3, fun q f hq => (b4 q f (by rw [a1]; exact hq)).trans (a4 q f hq), fun q f h1 h2 => (b5 q f (by rw [a1]; exact h1) h2).trans (a5 q f h1 h2)⟩
theorem zKp.wi {X q k : Nat} {x : Int32} {M M1 : zM} (h : zKp X M M1) (hq : z_k M1 q ≠ 11 ∨ 2 ≤ k) : zKp X M (w_i M1 q k x) :=
  h.tr ⟨rfl, rfl, rfl, fun _ _ _ => rfl, fun r f h1 h2 => w_i_ne _ _ (fun w => by
    rcases hq with hq | hq
    · exact hq (by rw [← w.1]; exact h1)
    · omega)⟩
theorem zKp.wu {X q : Nat} {g : Nat → Int32} {M M1 : zM} (h : zKp X M M1) (hq : z_k M1 q ≠ 11) : zKp X M (w_u M1 q g) :=
  h.tr ⟨rfl, rfl, rfl, fun _ _ _ => rfl, fun r f h1 h2 => by rw [w_u_i, if_neg (fun w => hq (by rw [← w]; exact h1))]⟩
theorem zKp.wj {X q k : Nat} {x : Int64} {M M1 : zM} (h : zKp X M M1) : zKp X M (w_j M1 q k x) :=
  h.tr ⟨rfl, rfl, rfl, fun _ _ _ => rfl, fun r f h1 h2 => rfl⟩
theorem zKp.wp {X q k x : Nat} {M M1 : zM} (h : zKp X M M1) (hq : ¬ zPf X (z_k M1 q) q k) : zKp X M (w_p M1 q k x) :=
  h.tr ⟨rfl, rfl, rfl, fun r f hr => by rw [w_p_p, if_neg (fun w => hq (by rw [← w.1, ← w.2]; exact hr))], fun r f h1 h2 => rfl⟩
theorem zShS.fr' {M M' : zM} {p G last : Nat} (h : zShS M p G last) (hk : z_k M' = z_k M) (hn : z_n M' = z_n M) (hp : ∀ f, 2 ≤ f → f < 7 → z_p M' p f = z_p M p f) (hi : ∀ f, f < 2 → z_i M' p f = z_i M p f) : zShS M' p G last := by
  obtain ⟨s1, s2, s3, s4, s5, s6, s7, s8, s9, s10, s11, s12, s13, s14, s15, s16, s17, s18⟩ := h
  simp only [zShS, hk, hn]
  rw [hp 2 (by omega) (by omega), hp 3 (by omega) (by omega), hp 4 (by omega) (by omega), hp 5 (by omega) (by omega), hp 6 (by omega) (by omega), hi 0 (by omega), hi 1 (by omega)]
  exact ⟨s1, s2, s3, s4, s5, s6, s7, s8, s9, s10, s11, s12, s13, s14, s15, s16, s17, s18⟩
theorem pf_5 {f : Nat} (h : 2 ≤ f ∧ f < 7) : f = 2 ∨ f = 3 ∨ f = 4 ∨ f = 5 ∨ f = 6 := by omega
theorem zShS.pp {M M' : zM} {p G last q f : Nat} (h1 : zShS M p G last) (h2 : zShS M' p G last) (c : p ≤ q ∧ q ≤ p + 5) (hq : pf (z_k M q) f = true) : z_p M' q f = z_p M q f := by
  have cc : q = p ∨ q = p + 1 ∨ q = p + 2 ∨ q = p + 3 ∨ q = p + 4 ∨ q = p + 5 := by omega
  clear c
  obtain ⟨a1, a2, a3, a4, a5, a6, a7, a8, a9, a10, a11, -⟩ := h1
  obtain ⟨b1, b2, b3, b4, b5, b6, -⟩ := h2
  rcases cc with e | e | e | e | e | e
  all_goals subst e
  · rw [a1] at hq
    have hf : 2 ≤ f ∧ f < 7 := by simpa [pf] using hq
    rcases pf_5 hf with e | e | e | e | e
    all_goals subst e
    · rw [a2, b2]
    · rw [a3, b3]
    · rw [a4, b4]
    · rw [a5, b5]
    · rw [a6, b6]
  · rw [a7] at hq; simp [pf] at hq
  · rw [a8] at hq; simp [pf] at hq
  · rw [a9] at hq; simp [pf] at hq
  · rw [a10] at hq; simp [pf] at hq
  · rw [a11] at hq; simp [pf] at hq
theorem zShS.ii {M M' : zM} {p G last q f : Nat} (h1 : zShS M p G last) (h2 : zShS M' p G last) (c : p ≤ q ∧ q ≤ p + 5) (hq : z_k M q = 11) (hf : f < 2) : z_i M' q f = z_i M q f := by
  have cc : q = p ∨ q = p + 1 ∨ q = p + 2 ∨ q = p + 3 ∨ q = p + 4 ∨ q = p + 5 := by omega
  have cf : f = 0 ∨ f = 1 := by omega
  clear c hf
  obtain ⟨a1, a2, a3, a4, a5, a6, a7, a8, a9, a10, a11, a12, a13, a14, a15, a16, a17, a18⟩ := h1
  obtain ⟨b1, b2, b3, b4, b5, b6, b7, b8, b9, b10, b11, b12, b13, b14, b15, b16, b17, b18⟩ := h2
  rcases cc with e | e | e | e | e | e
  all_goals subst e
  · rcases cf with e | e
    · subst e; rw [a17, b17]
    · subst e; rw [a18, b18]
  · rw [a7] at hq; cases hq
  · rw [a8] at hq; cases hq
  · rw [a9] at hq; cases hq
  · rw [a10] at hq; cases hq
  · rw [a11] at hq; cases hq
theorem zShS.kp {X p G l : Nat} {M M' : zM} (h : zShS M p G l) (g : zKp X M M') : zShS M' p G l := by
  have k0 := h.1
  exact h.fr' g.1 g.2.1 (fun f h1 h2 => g.2.2.2.1 p f (Or.inl (by rw [k0]; simp [pf, h1, h2]))) (fun f hf => g.2.2.2.2 p f k0 hf)
theorem zCdS.kp {X p : Nat} {M M' : zM} (h : zCdS M p) (g : zKp X M M') : zCdS M' p := by
  have k0 := h.1
  exact h.fr g.1 g.2.1 (fun f hf => g.2.2.2.1 p f (Or.inl (by rw [k0]; simp [pf, hf]))) (h.sh.kp g)
/-- cells that aren't the four rows of shares -/
def zNs (X q : Nat) : Prop := q ≠ X + 31 ∧ q ≠ X + 32 ∧ q ≠ X + 92 ∧ q ≠ X + 93
theorem zSt.sh {X p G l : Nat} {M M' : zM} (h : zSt (fun q => p ≤ q ∧ q ≤ p + 5) M M') (h1 : zShS M p G l) (h2 : zShS M' p G l) (hn : ∀ q, p ≤ q → q ≤ p + 5 → zNs X q) : zKp X M M' := by
  refine ⟨h.k, h.n, h.s, fun q f hq => ?_, fun q f hq hf => ?_⟩
  · by_cases c : p ≤ q ∧ q ≤ p + 5
    · have hns := hn q c.1 c.2
      rcases hq with hq | hq
      · exact zShS.pp h1 h2 c hq
      · exact (by unfold zNs at hns; omega : False).elim
    · exact h.p c f
  · by_cases c : p ≤ q ∧ q ≤ p + 5
    · exact zShS.ii h1 h2 c hq hf
    · exact h.i c f
theorem cd_5 {p q : Nat} (c : p ≤ q ∧ q ≤ p + 10) (c2 : ¬ (p + 4 ≤ q ∧ q ≤ p + 4 + 5)) : q = p ∨ q = p + 1 ∨ q = p + 2 ∨ q = p + 3 ∨ q = p + 10 := by omega
theorem pf_c {f : Nat} (h : f < 5) : f = 0 ∨ f = 1 ∨ f = 2 ∨ f = 3 ∨ f = 4 := by omega
theorem zNs.no {X q : Nat} (h : zNs X q) (hq : q = X + 31 ∨ q = X + 32 ∨ q = X + 92 ∨ q = X + 93) : False := by unfold zNs at h; omega
theorem zSt.cd {X p : Nat} {M M' : zM} (h : zSt (fun q => p ≤ q ∧ q ≤ p + 10) M M') (h1 : zCdS M p) (h2 : zCdS M' p) (hn : ∀ q, p ≤ q → q ≤ p + 10 → zNs X q) : zKp X M M' := by
  refine ⟨h.k, h.n, h.s, fun q f hq => ?_, fun q f hq hf => ?_⟩
  · by_cases c : p ≤ q ∧ q ≤ p + 10
    · rcases hq with hq | hq
      · by_cases c2 : p + 4 ≤ q ∧ q ≤ p + 4 + 5
        · exact zShS.pp h1.sh h2.sh c2 hq
        · have cc := cd_5 c c2
          obtain ⟨a1, a2, a3, a4, a5, a6, a7, a8, a9, a10, a11, a12, a13, a14⟩ := h1
          obtain ⟨b1, b2, b3, b4, b5, b6, -⟩ := h2
          rcases cc with e | e | e | e | e
          all_goals subst e
          · rw [a1] at hq
            have hf : f < 5 := by simpa [pf] using hq
            rcases pf_c hf with e | e | e | e | e
            all_goals subst e
            · rw [a2, b2]
            · rw [a3, b3]
            · rw [a4, b4]
            · rw [a5, b5]
            · rw [a6, b6]
          · rw [a7] at hq; simp [pf] at hq
          · rw [a8] at hq; simp [pf] at hq
          · rw [a9] at hq; simp [pf] at hq
          · rw [a14] at hq; simp [pf] at hq
      · exact ((hn q c.1 c.2).no hq).elim
    · exact h.p c f
  · by_cases c : p ≤ q ∧ q ≤ p + 10
    · by_cases c2 : p + 4 ≤ q ∧ q ≤ p + 4 + 5
      · exact zShS.ii h1.sh h2.sh c2 hq hf
      · have cc := cd_5 c c2
        obtain ⟨a1, a2, a3, a4, a5, a6, a7, a8, a9, a10, a11, a12, a13, a14⟩ := h1
        rcases cc with e | e | e | e | e
        all_goals subst e
        · rw [a1] at hq; cases hq
        · rw [a7] at hq; cases hq
        · rw [a8] at hq; cases hq
        · rw [a9] at hq; cases hq
        · rw [a14] at hq; cases hq
    · exact h.i c f
theorem zSt.row {X p a N c N' c' : Nat} {b b' : Nat → Nat} {M M' : zM} (h : zSt (zS2 p a) M M') (h1 : zRow M p a N c b) (h2 : zRow M' p a N' c' b') (hn : zNs X p ∧ zNs X a) : zKp X M M' := by
  refine ⟨h.k, h.n, h.s, fun q f hq => ?_, fun q f hq hf => ?_⟩
  · by_cases c : zS2 p a q
    · rcases hq with hq | hq
      · rcases c with e | e
        · subst e
          rw [h1.1] at hq
          have hf : f = 0 := by simpa [pf] using hq
          subst hf
          rw [h1.2.1, h2.2.1]
        · subst e
          rw [h1.2.2.1] at hq
          simp [pf] at hq
      · obtain ⟨n1, n2⟩ := hn
        unfold zNs at n1 n2
        rcases c with e | e <;> subst e <;> omega
    · exact h.p c f
  · by_cases c : zS2 p a q
    · rcases c with e | e
      · subst e; rw [h1.1] at hq; omega
      · subst e; rw [h1.2.2.1] at hq; omega
    · exact h.i c f
def zSF0 (M : zM) (X : Nat) : Prop := 1 ≤ X ∧ z_k M X = 1 ∧ z_k M (X + 1) = 9 ∧ z_k M (X + 2) = 101 ∧ z_k M (X + 3) = 9 ∧ z_k M (X + 4) = 101 ∧ z_k M (X + 5) = 4 ∧ z_k M (X + 6) = 9 ∧ z_k M (X + 7) = 101 ∧ z_k M (X + 8) = 6 ∧ z_k M (X + 31) = 104 ∧ z_k M (X + 32) = 104 ∧ z_k M (X + 69) = 8 ∧ z_k M (X + 70) = 3 ∧ z_k M (X + 71) = 9 ∧ z_k M (X + 72) = 101
def zSF1 (M : zM) (X : Nat) : Prop := z_k M (X + 73) = 5 ∧ z_k M (X + 74) = 7 ∧ z_k M (X + 75) = 12 ∧ z_k M (X + 87) = 9 ∧ z_k M (X + 88) = 101 ∧ z_k M (X + 89) = 10 ∧ z_k M (X + 90) = 12 ∧ z_k M (X + 91) = 6 ∧ z_k M (X + 92) = 104 ∧ z_k M (X + 93) = 104 ∧ z_k M (X + 94) = 104 ∧ z_k M (X + 95) = 102 ∧ z_k M (X + 96) = 100 ∧ z_n M (X + 2) = 12000 ∧ z_n M (X + 4) = 32768 ∧ z_n M (X + 7) = 12000
def zSF2 (M : zM) (X : Nat) : Prop := z_n M (X + 31) = 3 ∧ z_n M (X + 32) = 3 ∧ z_n M (X + 72) = 32768 ∧ z_n M (X + 88) = 32768 ∧ z_n M (X + 92) = 3 ∧ z_n M (X + 93) = 3 ∧ z_n M (X + 94) = 3 ∧ z_n M (X + 95) = 3 ∧ z_n M (X + 96) = 3 ∧ z_p M X 0 = X + 1 ∧ z_p M X 1 = X + 3 ∧ z_p M X 2 = X + 5 ∧ z_p M X 3 = X + 69 ∧ z_p M X 4 = X + 70 ∧ z_p M X 5 = X + 73 ∧ z_p M (X + 1) 0 = X + 2
def zSF3 (M : zM) (X : Nat) : Prop := z_p M (X + 3) 0 = X + 4 ∧ z_p M (X + 5) 0 = X + 6 ∧ z_p M (X + 5) 1 = X + 8 ∧ z_p M (X + 6) 0 = X + 7 ∧ z_p M (X + 70) 0 = X + 71 ∧ z_p M (X + 70) 1 = X + 6 ∧ z_p M (X + 71) 0 = X + 72 ∧ z_p M (X + 73) 0 = X + 1 ∧ z_p M (X + 73) 1 = X + 5 ∧ z_p M (X + 73) 2 = X + 69 ∧ z_p M (X + 73) 3 = X + 70 ∧ z_p M (X + 73) 4 = X + 74 ∧ z_p M (X + 73) 5 = X + 89 ∧ z_p M (X + 74) 0 = X + 1 ∧ z_p M (X + 74) 1 = X + 69 ∧ z_p M (X + 74) 2 = X + 75
def zSF4 (M : zM) (X : Nat) : Prop := z_p M (X + 74) 3 = X + 76 ∧ z_p M (X + 74) 4 = X + 87 ∧ z_p M (X + 87) 0 = X + 88 ∧ z_p M (X + 89) 0 = X + 1 ∧ z_p M (X + 89) 1 = X + 69 ∧ z_p M (X + 89) 2 = X + 70 ∧ z_p M (X + 89) 3 = X + 74 ∧ z_p M (X + 89) 4 = X + 90 ∧ z_p M (X + 89) 5 = X + 91 ∧ z_p M (X + 89) 6 = X + 92 ∧ z_p M (X + 89) 7 = X + 93 ∧ z_p M (X + 89) 8 = X + 94 ∧ z_p M (X + 89) 9 = X + 95 ∧ z_p M (X + 89) 10 = X + 96 ∧ z_p M (X + 92) 0 = X + 97 ∧ z_p M (X + 92) 1 = X + 109
def zSF5 (M : zM) (X : Nat) : Prop := z_p M (X + 92) 2 = X + 121 ∧ z_p M (X + 93) 0 = X + 103 ∧ z_p M (X + 93) 1 = X + 115 ∧ z_p M (X + 93) 2 = X + 127 ∧ z_p M (X + 31) 0 = X + 33 ∧ z_p M (X + 31) 1 = X + 45 ∧ z_p M (X + 31) 2 = X + 57 ∧ z_p M (X + 32) 0 = X + 39 ∧ z_p M (X + 32) 1 = X + 51 ∧ z_p M (X + 32) 2 = X + 63 ∧ zCdS M (X + 9) ∧ zCdS M (X + 20) ∧ zCdS M (X + 76) ∧ ∀ k, k < 3 → zShS M (X + 33 + 12 * k) (gr k) (lst k) ∧ zShS M (X + 39 + 12 * k) (gr k) (lst k) ∧ zShS M (X + 97 + 12 * k) (kno k) (lst k) ∧ zShS M (X + 103 + 12 * k) (gr k) (lst k)
def zSF (M : zM) (X : Nat) : Prop := zSF0 M X ∧ zSF1 M X ∧ zSF2 M X ∧ zSF3 M X ∧ zSF4 M X ∧ zSF5 M X
theorem zSF.x1 {M : zM} {X : Nat} (h : zSF M X) : 1 ≤ X := h.1.1
theorem zSF.k0 {M : zM} {X : Nat} (h : zSF M X) : z_k M X = 1 := h.1.2.1
theorem zSF.k1 {M : zM} {X : Nat} (h : zSF M X) : z_k M (X + 1) = 9 := h.1.2.2.1
theorem zSF.k2 {M : zM} {X : Nat} (h : zSF M X) : z_k M (X + 2) = 101 := h.1.2.2.2.1
theorem zSF.k3 {M : zM} {X : Nat} (h : zSF M X) : z_k M (X + 3) = 9 := h.1.2.2.2.2.1
theorem zSF.k4 {M : zM} {X : Nat} (h : zSF M X) : z_k M (X + 4) = 101 := h.1.2.2.2.2.2.1
theorem zSF.k5 {M : zM} {X : Nat} (h : zSF M X) : z_k M (X + 5) = 4 := h.1.2.2.2.2.2.2.1
theorem zSF.k6 {M : zM} {X : Nat} (h : zSF M X) : z_k M (X + 6) = 9 := h.1.2.2.2.2.2.2.2.1
theorem zSF.k7 {M : zM} {X : Nat} (h : zSF M X) : z_k M (X + 7) = 101 := h.1.2.2.2.2.2.2.2.2.1
theorem zSF.k8 {M : zM} {X : Nat} (h : zSF M X) : z_k M (X + 8) = 6 := h.1.2.2.2.2.2.2.2.2.2.1
theorem zSF.k31 {M : zM} {X : Nat} (h : zSF M X) : z_k M (X + 31) = 104 := h.1.2.2.2.2.2.2.2.2.2.2.1
theorem zSF.k32 {M : zM} {X : Nat} (h : zSF M X) : z_k M (X + 32) = 104 := h.1.2.2.2.2.2.2.2.2.2.2.2.1
theorem zSF.k69 {M : zM} {X : Nat} (h : zSF M X) : z_k M (X + 69) = 8 := h.1.2.2.2.2.2.2.2.2.2.2.2.2.1
theorem zSF.k70 {M : zM} {X : Nat} (h : zSF M X) : z_k M (X + 70) = 3 := h.1.2.2.2.2.2.2.2.2.2.2.2.2.2.1
theorem zSF.k71 {M : zM} {X : Nat} (h : zSF M X) : z_k M (X + 71) = 9 := h.1.2.2.2.2.2.2.2.2.2.2.2.2.2.2.1
theorem zSF.k72 {M : zM} {X : Nat} (h : zSF M X) : z_k M (X + 72) = 101 := h.1.2.2.2.2.2.2.2.2.2.2.2.2.2.2.2
theorem zSF.k73 {M : zM} {X : Nat} (h : zSF M X) : z_k M (X + 73) = 5 := h.2.1.1
theorem zSF.k74 {M : zM} {X : Nat} (h : zSF M X) : z_k M (X + 74) = 7 := h.2.1.2.1
theorem zSF.k75 {M : zM} {X : Nat} (h : zSF M X) : z_k M (X + 75) = 12 := h.2.1.2.2.1
theorem zSF.k87 {M : zM} {X : Nat} (h : zSF M X) : z_k M (X + 87) = 9 := h.2.1.2.2.2.1
theorem zSF.k88 {M : zM} {X : Nat} (h : zSF M X) : z_k M (X + 88) = 101 := h.2.1.2.2.2.2.1
theorem zSF.k89 {M : zM} {X : Nat} (h : zSF M X) : z_k M (X + 89) = 10 := h.2.1.2.2.2.2.2.1
theorem zSF.k90 {M : zM} {X : Nat} (h : zSF M X) : z_k M (X + 90) = 12 := h.2.1.2.2.2.2.2.2.1
theorem zSF.k91 {M : zM} {X : Nat} (h : zSF M X) : z_k M (X + 91) = 6 := h.2.1.2.2.2.2.2.2.2.1
theorem zSF.k92 {M : zM} {X : Nat} (h : zSF M X) : z_k M (X + 92) = 104 := h.2.1.2.2.2.2.2.2.2.2.1
theorem zSF.k93 {M : zM} {X : Nat} (h : zSF M X) : z_k M (X + 93) = 104 := h.2.1.2.2.2.2.2.2.2.2.2.1
theorem zSF.k94 {M : zM} {X : Nat} (h : zSF M X) : z_k M (X + 94) = 104 := h.2.1.2.2.2.2.2.2.2.2.2.2.1
theorem zSF.k95 {M : zM} {X : Nat} (h : zSF M X) : z_k M (X + 95) = 102 := h.2.1.2.2.2.2.2.2.2.2.2.2.2.1
theorem zSF.k96 {M : zM} {X : Nat} (h : zSF M X) : z_k M (X + 96) = 100 := h.2.1.2.2.2.2.2.2.2.2.2.2.2.2.1
theorem zSF.n2 {M : zM} {X : Nat} (h : zSF M X) : z_n M (X + 2) = 12000 := h.2.1.2.2.2.2.2.2.2.2.2.2.2.2.2.1
theorem zSF.n4 {M : zM} {X : Nat} (h : zSF M X) : z_n M (X + 4) = 32768 := h.2.1.2.2.2.2.2.2.2.2.2.2.2.2.2.2.1
theorem zSF.n7 {M : zM} {X : Nat} (h : zSF M X) : z_n M (X + 7) = 12000 := h.2.1.2.2.2.2.2.2.2.2.2.2.2.2.2.2.2
theorem zSF.n31 {M : zM} {X : Nat} (h : zSF M X) : z_n M (X + 31) = 3 := h.2.2.1.1
theorem zSF.n32 {M : zM} {X : Nat} (h : zSF M X) : z_n M (X + 32) = 3 := h.2.2.1.2.1
theorem zSF.n72 {M : zM} {X : Nat} (h : zSF M X) : z_n M (X + 72) = 32768 := h.2.2.1.2.2.1
theorem zSF.n88 {M : zM} {X : Nat} (h : zSF M X) : z_n M (X + 88) = 32768 := h.2.2.1.2.2.2.1
theorem zSF.n92 {M : zM} {X : Nat} (h : zSF M X) : z_n M (X + 92) = 3 := h.2.2.1.2.2.2.2.1
theorem zSF.n93 {M : zM} {X : Nat} (h : zSF M X) : z_n M (X + 93) = 3 := h.2.2.1.2.2.2.2.2.1
theorem zSF.n94 {M : zM} {X : Nat} (h : zSF M X) : z_n M (X + 94) = 3 := h.2.2.1.2.2.2.2.2.2.1
theorem zSF.n95 {M : zM} {X : Nat} (h : zSF M X) : z_n M (X + 95) = 3 := h.2.2.1.2.2.2.2.2.2.2.1
theorem zSF.n96 {M : zM} {X : Nat} (h : zSF M X) : z_n M (X + 96) = 3 := h.2.2.1.2.2.2.2.2.2.2.2.1
theorem zSF.p0_0 {M : zM} {X : Nat} (h : zSF M X) : z_p M X 0 = X + 1 := h.2.2.1.2.2.2.2.2.2.2.2.2.1
theorem zSF.p0_1 {M : zM} {X : Nat} (h : zSF M X) : z_p M X 1 = X + 3 := h.2.2.1.2.2.2.2.2.2.2.2.2.2.1
theorem zSF.p0_2 {M : zM} {X : Nat} (h : zSF M X) : z_p M X 2 = X + 5 := h.2.2.1.2.2.2.2.2.2.2.2.2.2.2.1
theorem zSF.p0_3 {M : zM} {X : Nat} (h : zSF M X) : z_p M X 3 = X + 69 := h.2.2.1.2.2.2.2.2.2.2.2.2.2.2.2.1
theorem zSF.p0_4 {M : zM} {X : Nat} (h : zSF M X) : z_p M X 4 = X + 70 := h.2.2.1.2.2.2.2.2.2.2.2.2.2.2.2.2.1
theorem zSF.p0_5 {M : zM} {X : Nat} (h : zSF M X) : z_p M X 5 = X + 73 := h.2.2.1.2.2.2.2.2.2.2.2.2.2.2.2.2.2.1
theorem zSF.p1_0 {M : zM} {X : Nat} (h : zSF M X) : z_p M (X + 1) 0 = X + 2 := h.2.2.1.2.2.2.2.2.2.2.2.2.2.2.2.2.2.2
theorem zSF.p3_0 {M : zM} {X : Nat} (h : zSF M X) : z_p M (X + 3) 0 = X + 4 := h.2.2.2.1.1
theorem zSF.p5_0 {M : zM} {X : Nat} (h : zSF M X) : z_p M (X + 5) 0 = X + 6 := h.2.2.2.1.2.1
theorem zSF.p5_1 {M : zM} {X : Nat} (h : zSF M X) : z_p M (X + 5) 1 = X + 8 := h.2.2.2.1.2.2.1
theorem zSF.p6_0 {M : zM} {X : Nat} (h : zSF M X) : z_p M (X + 6) 0 = X + 7 := h.2.2.2.1.2.2.2.1
theorem zSF.p70_0 {M : zM} {X : Nat} (h : zSF M X) : z_p M (X + 70) 0 = X + 71 := h.2.2.2.1.2.2.2.2.1
theorem zSF.p70_1 {M : zM} {X : Nat} (h : zSF M X) : z_p M (X + 70) 1 = X + 6 := h.2.2.2.1.2.2.2.2.2.1
theorem zSF.p71_0 {M : zM} {X : Nat} (h : zSF M X) : z_p M (X + 71) 0 = X + 72 := h.2.2.2.1.2.2.2.2.2.2.1
theorem zSF.p73_0 {M : zM} {X : Nat} (h : zSF M X) : z_p M (X + 73) 0 = X + 1 := h.2.2.2.1.2.2.2.2.2.2.2.1
theorem zSF.p73_1 {M : zM} {X : Nat} (h : zSF M X) : z_p M (X + 73) 1 = X + 5 := h.2.2.2.1.2.2.2.2.2.2.2.2.1
theorem zSF.p73_2 {M : zM} {X : Nat} (h : zSF M X) : z_p M (X + 73) 2 = X + 69 := h.2.2.2.1.2.2.2.2.2.2.2.2.2.1
theorem zSF.p73_3 {M : zM} {X : Nat} (h : zSF M X) : z_p M (X + 73) 3 = X + 70 := h.2.2.2.1.2.2.2.2.2.2.2.2.2.2.1
theorem zSF.p73_4 {M : zM} {X : Nat} (h : zSF M X) : z_p M (X + 73) 4 = X + 74 := h.2.2.2.1.2.2.2.2.2.2.2.2.2.2.2.1
theorem zSF.p73_5 {M : zM} {X : Nat} (h : zSF M X) : z_p M (X + 73) 5 = X + 89 := h.2.2.2.1.2.2.2.2.2.2.2.2.2.2.2.2.1
theorem zSF.p74_0 {M : zM} {X : Nat} (h : zSF M X) : z_p M (X + 74) 0 = X + 1 := h.2.2.2.1.2.2.2.2.2.2.2.2.2.2.2.2.2.1
theorem zSF.p74_1 {M : zM} {X : Nat} (h : zSF M X) : z_p M (X + 74) 1 = X + 69 := h.2.2.2.1.2.2.2.2.2.2.2.2.2.2.2.2.2.2.1
theorem zSF.p74_2 {M : zM} {X : Nat} (h : zSF M X) : z_p M (X + 74) 2 = X + 75 := h.2.2.2.1.2.2.2.2.2.2.2.2.2.2.2.2.2.2.2
theorem zSF.p74_3 {M : zM} {X : Nat} (h : zSF M X) : z_p M (X + 74) 3 = X + 76 := h.2.2.2.2.1.1
theorem zSF.p74_4 {M : zM} {X : Nat} (h : zSF M X) : z_p M (X + 74) 4 = X + 87 := h.2.2.2.2.1.2.1
theorem zSF.p87_0 {M : zM} {X : Nat} (h : zSF M X) : z_p M (X + 87) 0 = X + 88 := h.2.2.2.2.1.2.2.1
theorem zSF.p89_0 {M : zM} {X : Nat} (h : zSF M X) : z_p M (X + 89) 0 = X + 1 := h.2.2.2.2.1.2.2.2.1
theorem zSF.p89_1 {M : zM} {X : Nat} (h : zSF M X) : z_p M (X + 89) 1 = X + 69 := h.2.2.2.2.1.2.2.2.2.1
theorem zSF.p89_2 {M : zM} {X : Nat} (h : zSF M X) : z_p M (X + 89) 2 = X + 70 := h.2.2.2.2.1.2.2.2.2.2.1
theorem zSF.p89_3 {M : zM} {X : Nat} (h : zSF M X) : z_p M (X + 89) 3 = X + 74 := h.2.2.2.2.1.2.2.2.2.2.2.1
theorem zSF.p89_4 {M : zM} {X : Nat} (h : zSF M X) : z_p M (X + 89) 4 = X + 90 := h.2.2.2.2.1.2.2.2.2.2.2.2.1
theorem zSF.p89_5 {M : zM} {X : Nat} (h : zSF M X) : z_p M (X + 89) 5 = X + 91 := h.2.2.2.2.1.2.2.2.2.2.2.2.2.1
theorem zSF.p89_6 {M : zM} {X : Nat} (h : zSF M X) : z_p M (X + 89) 6 = X + 92 := h.2.2.2.2.1.2.2.2.2.2.2.2.2.2.1
theorem zSF.p89_7 {M : zM} {X : Nat} (h : zSF M X) : z_p M (X + 89) 7 = X + 93 := h.2.2.2.2.1.2.2.2.2.2.2.2.2.2.2.1
theorem zSF.p89_8 {M : zM} {X : Nat} (h : zSF M X) : z_p M (X + 89) 8 = X + 94 := h.2.2.2.2.1.2.2.2.2.2.2.2.2.2.2.2.1
theorem zSF.p89_9 {M : zM} {X : Nat} (h : zSF M X) : z_p M (X + 89) 9 = X + 95 := h.2.2.2.2.1.2.2.2.2.2.2.2.2.2.2.2.2.1
theorem zSF.p89_10 {M : zM} {X : Nat} (h : zSF M X) : z_p M (X + 89) 10 = X + 96 := h.2.2.2.2.1.2.2.2.2.2.2.2.2.2.2.2.2.2.1
theorem zSF.p92_0 {M : zM} {X : Nat} (h : zSF M X) : z_p M (X + 92) 0 = X + 97 := h.2.2.2.2.1.2.2.2.2.2.2.2.2.2.2.2.2.2.2.1
theorem zSF.p92_1 {M : zM} {X : Nat} (h : zSF M X) : z_p M (X + 92) 1 = X + 109 := h.2.2.2.2.1.2.2.2.2.2.2.2.2.2.2.2.2.2.2.2
theorem zSF.p92_2 {M : zM} {X : Nat} (h : zSF M X) : z_p M (X + 92) 2 = X + 121 := h.2.2.2.2.2.1
theorem zSF.p93_0 {M : zM} {X : Nat} (h : zSF M X) : z_p M (X + 93) 0 = X + 103 := h.2.2.2.2.2.2.1
theorem zSF.p93_1 {M : zM} {X : Nat} (h : zSF M X) : z_p M (X + 93) 1 = X + 115 := h.2.2.2.2.2.2.2.1
theorem zSF.p93_2 {M : zM} {X : Nat} (h : zSF M X) : z_p M (X + 93) 2 = X + 127 := h.2.2.2.2.2.2.2.2.1
theorem zSF.p31_0 {M : zM} {X : Nat} (h : zSF M X) : z_p M (X + 31) 0 = X + 33 := h.2.2.2.2.2.2.2.2.2.1
theorem zSF.p31_1 {M : zM} {X : Nat} (h : zSF M X) : z_p M (X + 31) 1 = X + 45 := h.2.2.2.2.2.2.2.2.2.2.1
theorem zSF.p31_2 {M : zM} {X : Nat} (h : zSF M X) : z_p M (X + 31) 2 = X + 57 := h.2.2.2.2.2.2.2.2.2.2.2.1
theorem zSF.p32_0 {M : zM} {X : Nat} (h : zSF M X) : z_p M (X + 32) 0 = X + 39 := h.2.2.2.2.2.2.2.2.2.2.2.2.1
theorem zSF.p32_1 {M : zM} {X : Nat} (h : zSF M X) : z_p M (X + 32) 1 = X + 51 := h.2.2.2.2.2.2.2.2.2.2.2.2.2.1
theorem zSF.p32_2 {M : zM} {X : Nat} (h : zSF M X) : z_p M (X + 32) 2 = X + 63 := h.2.2.2.2.2.2.2.2.2.2.2.2.2.2.1
theorem zSF.c9 {M : zM} {X : Nat} (h : zSF M X) : zCdS M (X + 9) := h.2.2.2.2.2.2.2.2.2.2.2.2.2.2.2.1
theorem zSF.c20 {M : zM} {X : Nat} (h : zSF M X) : zCdS M (X + 20) := h.2.2.2.2.2.2.2.2.2.2.2.2.2.2.2.2.1
theorem zSF.c76 {M : zM} {X : Nat} (h : zSF M X) : zCdS M (X + 76) := h.2.2.2.2.2.2.2.2.2.2.2.2.2.2.2.2.2.1
theorem zSF.sh {M : zM} {X : Nat} (h : zSF M X) : ∀ k, k < 3 → zShS M (X + 33 + 12 * k) (gr k) (lst k) ∧ zShS M (X + 39 + 12 * k) (gr k) (lst k) ∧ zShS M (X + 97 + 12 * k) (kno k) (lst k) ∧ zShS M (X + 103 + 12 * k) (gr k) (lst k) := h.2.2.2.2.2.2.2.2.2.2.2.2.2.2.2.2.2.2
theorem zSF.kp {M M' : zM} {X : Nat} (h : zSF M X) (g : zKp X M M') : zSF M' X := ⟨⟨h.x1, by rw [g.1]; exact h.k0, by rw [g.1]; exact h.k1, by rw [g.1]; exact h.k2, by rw [g.1]; exact h.k3, by rw [g.1]; exact h.k4, by rw [g.1]; exact h.k5, by rw [g.1]; exact h.k6, by rw [g.1]; exact h.k7, by rw [g.1]; exact h.k8, by rw [g.1]; exact h.k31, by rw [g.1]; exact h.k32, by rw [g.1]; exact h.k69, by rw [g.1]; exact h.k70, by rw [g.1]; exact h.k71, by rw [g.1]; exact h.k72⟩, ⟨by rw [g.1]; exact h.k73, by rw [g.1]; exact h.k74, by rw [g.1]; exact h.k75, by rw [g.1]; exact h.k87, by rw [g.1]; exact h.k88, by rw [g.1]; exact h.k89, by rw [g.1]; exact h.k90, by rw [g.1]; exact h.k91, by rw [g.1]; exact h.k92, by rw [g.1]; exact h.k93, by rw [g.1]; exact h.k94, by rw [g.1]; exact h.k95, by rw [g.1]; exact h.k96, by rw [g.2.1]; exact h.n2, by rw [g.2.1]; exact h.n4, by rw [g.2.1]; exact h.n7⟩, ⟨by rw [g.2.1]; exact h.n31, by rw [g.2.1]; exact h.n32, by rw [g.2.1]; exact h.n72, by rw [g.2.1]; exact h.n88, by rw [g.2.1]; exact h.n92, by rw [g.2.1]; exact h.n93, by rw [g.2.1]; exact h.n94, by rw [g.2.1]; exact h.n95, by rw [g.2.1]; exact h.n96, (g.2.2.2.1 _ _ (Or.inl (by rw [h.k0]; rfl))).trans h.p0_0, (g.2.2.2.1 _ _ (Or.inl (by rw [h.k0]; rfl))).trans h.p0_1, (g.2.2.2.1 _ _ (Or.inl (by rw [h.k0]; rfl))).trans h.p0_2, (g.2.2.2.1 _ _ (Or.inl (by rw [h.k0]; rfl))).trans h.p0_3, (g.2.2.2.1 _ _ (Or.inl (by rw [h.k0]; rfl))).trans h.p0_4, (g.2.2.2.1 _ _ (Or.inl (by rw [h.k0]; rfl))).trans h.p0_5, (g.2.2.2.1 _ _ (Or.inl (by rw [h.k1]; rfl))).trans h.p1_0⟩, ⟨(g.2.2.2.1 _ _ (Or.inl (by rw [h.k3]; rfl))).trans h.p3_0, (g.2.2.2.1 _ _ (Or.inl (by rw [h.k5]; rfl))).trans h.p5_0, (g.2.2.2.1 _ _ (Or.inl (by rw [h.k5]; rfl))).trans h.p5_1, (g.2.2.2.1 _ _ (Or.inl (by rw [h.k6]; rfl))).trans h.p6_0, (g.2.2.2.1 _ _ (Or.inl (by rw [h.k70]; rfl))).trans h.p70_0, (g.2.2.2.1 _ _ (Or.inl (by rw [h.k70]; rfl))).trans h.p70_1, (g.2.2.2.1 _ _ (Or.inl (by rw [h.k71]; rfl))).trans h.p71_0, (g.2.2.2.1 _ _ (Or.inl (by rw [h.k73]; rfl))).trans h.p73_0, (g.2.2.2.1 _ _ (Or.inl (by rw [h.k73]; rfl))).trans h.p73_1, (g.2.2.2.1 _ _ (Or.inl (by rw [h.k73]; rfl))).trans h.p73_2, (g.2.2.2.1 _ _ (Or.inl (by rw [h.k73]; rfl))).trans h.p73_3, (g.2.2.2.1 _ _ (Or.inl (by rw [h.k73]; rfl))).trans h.p73_4, (g.2.2.2.1 _ _ (Or.inl (by rw [h.k73]; rfl))).trans h.p73_5, (g.2.2.2.1 _ _ (Or.inl (by rw [h.k74]; rfl))).trans h.p74_0, (g.2.2.2.1 _ _ (Or.inl (by rw [h.k74]; rfl))).trans h.p74_1, (g.2.2.2.1 _ _ (Or.inl (by rw [h.k74]; rfl))).trans h.p74_2⟩, ⟨(g.2.2.2.1 _ _ (Or.inl (by rw [h.k74]; rfl))).trans h.p74_3, (g.2.2.2.1 _ _ (Or.inl (by rw [h.k74]; rfl))).trans h.p74_4, (g.2.2.2.1 _ _ (Or.inl (by rw [h.k87]; rfl))).trans h.p87_0, (g.2.2.2.1 _ _ (Or.inl (by rw [h.k89]; rfl))).trans h.p89_0, (g.2.2.2.1 _ _ (Or.inl (by rw [h.k89]; rfl))).trans h.p89_1, (g.2.2.2.1 _ _ (Or.inl (by rw [h.k89]; rfl))).trans h.p89_2, (g.2.2.2.1 _ _ (Or.inl (by rw [h.k89]; rfl))).trans h.p89_3, (g.2.2.2.1 _ _ (Or.inl (by rw [h.k89]; rfl))).trans h.p89_4, (g.2.2.2.1 _ _ (Or.inl (by rw [h.k89]; rfl))).trans h.p89_5, (g.2.2.2.1 _ _ (Or.inl (by rw [h.k89]; rfl))).trans h.p89_6, (g.2.2.2.1 _ _ (Or.inl (by rw [h.k89]; rfl))).trans h.p89_7, (g.2.2.2.1 _ _ (Or.inl (by rw [h.k89]; rfl))).trans h.p89_8, (g.2.2.2.1 _ _ (Or.inl (by rw [h.k89]; rfl))).trans h.p89_9, (g.2.2.2.1 _ _ (Or.inl (by rw [h.k89]; rfl))).trans h.p89_10, (g.2.2.2.1 _ _ (Or.inr (by omega))).trans h.p92_0, (g.2.2.2.1 _ _ (Or.inr (by omega))).trans h.p92_1⟩, ⟨(g.2.2.2.1 _ _ (Or.inr (by omega))).trans h.p92_2, (g.2.2.2.1 _ _ (Or.inr (by omega))).trans h.p93_0, (g.2.2.2.1 _ _ (Or.inr (by omega))).trans h.p93_1, (g.2.2.2.1 _ _ (Or.inr (by omega))).trans h.p93_2, (g.2.2.2.1 _ _ (Or.inr (by omega))).trans h.p31_0, (g.2.2.2.1 _ _ (Or.inr (by omega))).trans h.p31_1, (g.2.2.2.1 _ _ (Or.inr (by omega))).trans h.p31_2, (g.2.2.2.1 _ _ (Or.inr (by omega))).trans h.p32_0, (g.2.2.2.1 _ _ (Or.inr (by omega))).trans h.p32_1, (g.2.2.2.1 _ _ (Or.inr (by omega))).trans h.p32_2, h.c9.kp g, h.c20.kp g, h.c76.kp g, fun k hk => ⟨(h.sh k hk).1.kp g, (h.sh k hk).2.1.kp g, (h.sh k hk).2.2.1.kp g, (h.sh k hk).2.2.2.kp g⟩⟩⟩
