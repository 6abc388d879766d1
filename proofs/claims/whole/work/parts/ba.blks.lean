/-! The blocks of a frame: both sides together. -/
theorem zFC.oc {M : zM} {X cN mo fs v c dc done : Nat} {b cb db : Nat → Nat} {hc : Option (Nat × (Nat → Nat))} {tb0 tb1 tb2 : Option tbT} {d : Nat × Nat × Nat} (h : zFC M X cN b hc tb0 tb1 tb2 mo fs v c cb dc db d done) : zOC M X cN b mo c cb dc db done := by
  obtain ⟨a1, a2, a3, a4, a5, a6, a7, ⟨bs, a8⟩, a9, a10, a11, a12, c0, lb0, a13⟩ := h
  exact ⟨a1, a2, a7, a8.2.2.2.1, a9, a10, a12, c0, lb0, a13⟩
theorem zFM.om {M : zM} {m cN mo fs v c dc done : Nat} {b cb db : Nat → Nat} {hc : Option (Nat × (Nat → Nat))} {tb0 tb1 tb2 : Option tbT} {d : Nat × Nat × Nat} (h : zFM M m cN b hc tb0 tb1 tb2 mo fs v c cb dc db d done) : zOM M m cN b mo c cb dc db done := by
  obtain ⟨a1, a2, a3, a4, a5, a6, a7, a8, a9, a10, a11, a12, a13, a14, a15, a16⟩ := h
  exact ⟨a1, a2, a7, a11, a12, a13, a14, a16⟩
set_option maxRecDepth 100000 in
set_option maxHeartbeats 4000000 in
theorem c_goesOn {O : zO} {M : zM} {X : Nat} {y : Int32} (hx : zSF M X) (h : (z_i M (X + 69) 0 ≠ 0 ∧ y = 0) ∨ (z_i M (X + 69) 0 = 0 ∧ z_i M (X + 73) 7 ≠ 0 ∧ y = 1) ∨ (z_i M (X + 69) 0 = 0 ∧ z_i M (X + 73) 7 = 0 ∧ z_i M (X + 1) 1 ≤ z_i M (X + 73) 6 ∧ y = 0) ∨ (z_i M (X + 69) 0 = 0 ∧ z_i M (X + 73) 7 = 0 ∧ ¬ z_i M (X + 1) 1 ≤ z_i M (X + 73) 6 ∧ y = 1)) : zEv (fun n => F_FR_goesOn O n (X + 73) M) (y, M) := by
  have k73 := hx.k73
  have k69 := hx.k69
  have k1 := hx.k1
  have p2 := hx.p73_2
  have p0 := hx.p73_0
  unfold F_FR_goesOn f_FR_goesOn_0 f_FR_goesOn_35 f_FR_goesOn_31 f_FR_goesOn_36
  refine zEv.ip k73 ?_
  rw [p2, p0]
  refine zEv.ip k69 ?_
  rcases h with ⟨h1, h2⟩ | ⟨h1, h2, h3⟩ | ⟨h1, h2, h3, h4⟩ | ⟨h1, h2, h3, h4⟩
  · subst h2; exact zEv.in_ h1 (zEv.ip (Or.inl rfl) (zEv.some _))
  · subst h3; exact zEv.ip h1 (zEv.in_ h2 (zEv.ip (Or.inr rfl) (zEv.some _)))
  · subst h4; exact zEv.ip h1 (zEv.ip h2 (zEv.ip k1 (zEv.ip h3 (zEv.ip (Or.inl rfl) (zEv.some _)))))
  · subst h4; exact zEv.ip h1 (zEv.ip h2 (zEv.ip k1 (zEv.in_ h3 (zEv.ip (Or.inr rfl) (zEv.some _)))))
theorem l_stop {O : zO} {M : zM} {X s : Nat} (hx : zSF M X) (hg : zEv (fun n => F_FR_goesOn O n (X + 73) M) (0, M)) (hs : s ≤ 20000) : ∀ α, zEv (fun n => f_SF_read_75 O n X M) α → zEv (fun n => f_SF_read_23 O n X (nI s) M) α := by
  intro α hα
  refine zEv.succ ?_
  simp only [f_SF_read_23]
  by_cases c : 12000 < s
  · exact zEv.ip (nI_lt (a := 12000) c (by omega)) hα
  · refine zEv.in_ (nI_nlt (a := 12000) (by omega) (by omega)) (zEv.ip hx.k0 ?_)
    rw [hx.p0_5]
    exact zEv.ip hx.k73 (zEv.bind hg (zEv.ip rfl hα))
theorem l_in {O : zO} {M x : zM} {X s : Nat} {y : Int32} (hx : zSF M X) (h7 : z_i M (X + 73) 7 = nI 1) (h0 : z_i M (X + 69) 0 = nI 0) (hs : s ≤ 12000) (hb : zEv (fun n => F_FR_block O n (X + 73) M) (y, x)) : ∀ α, zEv (fun n => f_SF_read_23 O n X (nI (s + 1)) x) α → zEv (fun n => f_SF_read_23 O n X (nI s) M) α := by
  intro α hα
  have h7n : z_i M (X + 73) 7 ≠ 0 := by rw [h7]; decide
  refine zEv.succ ?_
  simp only [f_SF_read_23]
  refine zEv.in_ (nI_nlt (a := 12000) (by omega) (by omega)) (zEv.ip hx.k0 ?_)
  rw [hx.p0_5]
  refine zEv.ip hx.k73 (zEv.bind (c_goesOn (y := 1) hx (Or.inr (Or.inl ⟨h0, h7n, rfl⟩))) (zEv.in_ (show ¬ (1 : Int32) = 0 by decide) (zEv.ip hx.k0 ?_)))
  dsimp only
  rw [hx.p0_5]
  refine zEv.ip hx.k73 (zEv.in_ h7n (zEv.bind hb ?_))
  unfold f_SF_read_69
  refine hα.to fun n => ?_
  show f_SF_read_23 O n X (nI s + nI 1) x = _
  rw [nI_add]
theorem l_out {O : zO} {M x : zM} {X s p cN : Nat} {y : Int32} (hx : zSF M X) (h7 : z_i M (X + 73) 7 = nI 0) (h0 : z_i M (X + 69) 0 = nI 0) (h6 : z_i M (X + 73) 6 = nI p) (h1 : z_i M (X + 1) 1 = nI cN) (hp : p < cN) (hc : cN ≤ 12000) (hs : s ≤ 12000) (hb : zEv (fun n => F_FR_beginning O n (X + 73) M) (y, x)) : ∀ α, zEv (fun n => f_SF_read_23 O n X (nI (s + 1)) x) α → zEv (fun n => f_SF_read_23 O n X (nI s) M) α := by
  intro α hα
  refine zEv.succ ?_
  simp only [f_SF_read_23]
  refine zEv.in_ (nI_nlt (a := 12000) (by omega) (by omega)) (zEv.ip hx.k0 ?_)
  rw [hx.p0_5]
  refine zEv.ip hx.k73 (zEv.bind (c_goesOn (y := 1) hx (Or.inr (Or.inr (Or.inr ⟨h0, h7, by rw [h6, h1]; exact fun w => by have := (nI_leI (by omega) (by omega)).mp w; omega, rfl⟩)))) (zEv.in_ (show ¬ (1 : Int32) = 0 by decide) (zEv.ip hx.k0 ?_)))
  dsimp only
  rw [hx.p0_5]
  refine zEv.ip hx.k73 (zEv.ip h7 (zEv.bind hb ?_))
  unfold f_SF_read_69
  refine hα.to fun n => ?_
  show f_SF_read_23 O n X (nI s + nI 1) x = _
  rw [nI_add]
/-- a fault ends the loop -/
def jLB (O : zO) (X m s : Nat) (M M2 : zM) (fm : Nat → Option (Int32 × zM)) : Prop := ∃ f q M' M2', f ≠ 0 ∧ f ≤ 20 ∧ (∀ α, zEv (fun n => f_SF_read_75 O n X (fl X M' f q)) α → zEv (fun n => f_SF_read_23 O n X (nI s) M) α) ∧ zEv fm (0, flm m M2' f q) ∧ zSt (sRd X) M M' ∧ zKp X M M' ∧ zRf fRe (sRm m) m M2 M2' ∧ zAb M' M2' X m ∧ ∃ c' cb', zRow M' (X + 71) (X + 72) 32768 c' cb'
/-- a unit's end is reached -/
def jLO (O : zO) (X m cN : Nat) (b : Nat → Nat) (mo dc : Nat) (db : Nat → Nat) (s : Nat) (M M2 : zM) (fm : Nat → Option (Int32 × zM)) (p : Nat) : Prop := ∃ s' p' c cb done M' M2', (∀ α, zEv (fun n => f_SF_read_23 O n X (nI s') M') α → zEv (fun n => f_SF_read_23 O n X (nI s) M) α) ∧ zEv fm (1, M2') ∧ zSt (sRd X) M M' ∧ zKp X M M' ∧ zRf fRe (sRm m) m M2 M2' ∧ zOC M' X cN b mo c cb dc db done ∧ zOM M2' m cN b mo c cb dc db done ∧ zAr M' M2' X m ∧ z_i M' (X + 73) 6 = nI p' ∧ z_i M' (X + 73) 7 = nI 0 ∧ z_i M' (X + 69) 0 = nI 0 ∧ z_i M2' m 28 = nI p' ∧ p < p' ∧ p' ≤ cN ∧ s' ≤ p' ∧ c ≤ mo
theorem flK {X f q : Nat} {M : zM} (hx : zSF M X) : zKp X M (fl X M f q) := by
  have k69 := hx.k69
  unfold fl
  exact (zKp.rf.wi (Or.inl (by rw [k69]; omega))).wi (Or.inl (show z_k M (X + 69) ≠ 11 by rw [k69]; omega))
theorem jBd.lb {O : zO} {X m s : Nat} {M M2 : zM} {fc fm : Nat → Option (Int32 × zM)} (h : jBd X m M M2 fc fm) (hx : zSF M X) (hs : s ≤ 12000) (hg : ∀ {y : Int32} {x : zM}, zEv fc (y, x) → ∀ α, zEv (fun n => f_SF_read_23 O n X (nI (s + 1)) x) α → zEv (fun n => f_SF_read_23 O n X (nI s) M) α) : jLB O X m s M M2 fm := by
  obtain ⟨f, pl, M', M2', w1, w2, w3, w4, w5, w6, w7, w8⟩ := h
  have x1 := (hx.kp w6).kp (flK (f := f) (q := pl) (hx.kp w6))
  have e : z_i (fl X M' f pl) (X + 69) 0 = nI f := by unfold fl; rw [w_i_ne _ _ (by omega), w_i_eq]
  exact ⟨f, pl, M', M2', w1, w2, fun α hα => hg w3 α (l_stop x1 (c_goesOn x1 (Or.inl ⟨by rw [e]; exact nI_ne0 (by omega) (by omega), rfl⟩)) (by omega) α hα), w4, w5, w6, w7, w8⟩
theorem jLB.to {O : zO} {X m s s1 : Nat} {M M2 M1 M3 : zM} {fm gm : Nat → Option (Int32 × zM)} (h : jLB O X m s1 M1 M3 fm) (st : zSt (sRd X) M M1) (kp : zKp X M M1) (rf : zRf fRe (sRm m) m M2 M3) (hc : ∀ α, zEv (fun n => f_SF_read_23 O n X (nI s1) M1) α → zEv (fun n => f_SF_read_23 O n X (nI s) M) α) (hm : ∀ {x : zM}, zEv fm (0, x) → zEv gm (0, x)) : jLB O X m s M M2 gm := by
  obtain ⟨f, pl, M', M2', w1, w2, w3, w4, w5, w6, w7, w8⟩ := h
  exact ⟨f, pl, M', M2', w1, w2, fun α hα => hc α (w3 α hα), hm w4, st.tr w5, kp.tr w6, rf.tr w7, w8⟩
theorem jLO.to {O : zO} {X m cN s s1 mo dc p p1 : Nat} {b db : Nat → Nat} {M M2 M1 M3 : zM} {fm gm : Nat → Option (Int32 × zM)} (h : jLO O X m cN b mo dc db s1 M1 M3 fm p1) (st : zSt (sRd X) M M1) (kp : zKp X M M1) (rf : zRf fRe (sRm m) m M2 M3) (hp : p ≤ p1) (hc : ∀ α, zEv (fun n => f_SF_read_23 O n X (nI s1) M1) α → zEv (fun n => f_SF_read_23 O n X (nI s) M) α) (hm : ∀ {x : zM}, zEv fm (1, x) → zEv gm (1, x)) : jLO O X m cN b mo dc db s M M2 gm p := by
  obtain ⟨s', p', c, cb, done, M', M2', w1, w2, w3, w4, w5, w6, w7, w8, w9, w10, w11, w12, w13, w14⟩ := h
  exact ⟨s', p', c, cb, done, M', M2', fun α hα => hc α (w1 α hα), hm w2, st.tr w3, kp.tr w4, rf.tr w5, w6, w7, w8, w9, w10, w11, w12, by omega, w14⟩
-- from one block to the frame's end
set_option maxRecDepth 100000 in
set_option maxHeartbeats 4000000 in
theorem j_blocks {O : zO} {X m cN mo fs v dc head sb due sp : Nat} {b db : Nat → Nat} {summed sized : Bool} (hO : zTabOk O) (hs : summed = decide (head / 4 % 2 = 1)) (hhd : head < 256) (hz : sized = decide (0 < sb)) (hsb : sb < 100) (hdue : due < 18446744073709551616) : ∀ (e p s c done : Nat) (cb : Nat → Nat) (hc : Option (Nat × (Nat → Nat))) (tb0 tb1 tb2 : Option tbT) (d : Nat × Nat × Nat) (M M2 : zM), cN < p + e → s ≤ p → zFC M X cN b hc tb0 tb1 tb2 mo fs v c cb dc db d done → zFM M2 m cN b hc tb0 tb1 tb2 mo fs v c cb dc db d done → zBd fs c mo v d → zAr M M2 X m → zRd M X p summed sized due sp → z_i M (X + 73) 7 = nI 1 → z_i M (X + 69) 0 = nI 0 → z_i M2 m 28 = nI p → p ≤ cN →
    jLB O X m s M M2 (fun n => f_Mo_frame_375 O n m (nI head) (nI sb) (lN due) (nI sp) (0 : Int32) M2) ∨ jLO O X m cN b mo dc db s M M2 (fun n => f_Mo_frame_375 O n m (nI head) (nI sb) (lN due) (nI sp) (0 : Int32) M2) p := by
  intro e
  induction e with
  | zero => intro p s c done cb hc tb0 tb1 tb2 d M M2 he; intros; omega
  | succ e ih =>
    intro p s c done cb hc tb0 tb1 tb2 d M M2 he hsp hF hG hb ha hr h7 h0 h28 hp
    have hx := hF.1
    have hin := hF.2.1
    have hc9 := hin.cN
    have hm := hG.1
    have hi2 := hG.2.1
    have k73 := hx.k73
    obtain ⟨r6, r8, r9, r10, r11⟩ := hr
    have hhas := c_has (O := O) (k := 3) hm hi2 h28 hp (by omega)
    by_cases c3 : p + 3 ≤ cN
    · have hh := hhas.1 c3
      have hbi := (hi2.2.2 p (by omega)).2
      have hb8 := hin.b (show p < cN by omega)
      have zi : zin (nI p) 12000 = true := of_eq_true (q_tin (by omega) (by omega))
      have ck : (nI p).toNatClampNeg = p := nI_cl (by omega)
      have toM : ∀ {α : Int32 × zM}, zEv (fun n => (F_Mo_block O n m M2).bind fun q2 => if q2.1 = 0 then some ((0 : Int32), q2.2) else f_Mo_frame_375 O n m (nI head) (nI sb) (lN due) (nI sp) (nI (b p % 2)) q2.2) α → zEv (fun n => f_Mo_frame_375 O n m (nI head) (nI sb) (lN due) (nI sp) (0 : Int32) M2) α := fun {α} hα => by
        refine zEv.succ ?_
        simp only [f_Mo_frame_375]
        refine zEv.ip trivial (zEv.ip hm.k (zEv.bind hh (zEv.in_ (show ¬ (1 : Int32) = 0 by decide) (zEv.ip hm.k ?_))))
        dsimp only
        rw [hm.p1, h28, ck, hbi]
        refine zEv.ip hm.k1 (zEv.ip (by rw [hm.n1]; exact zi) ?_)
        rw [show (2 : Int32) = nI 2 from rfl, q_div (by omega) (by omega) (by omega), pk_mul, q_rem]
        rcases (show b p % 2 = 0 ∨ b p % 2 = 1 by omega) with w | w
        · rw [w] at hα ⊢
          refine zEv.in_ (by decide) ?_
          unfold f_Mo_frame_410
          exact zEv.ip hm.k hα
        · rw [w] at hα ⊢
          refine zEv.ip rfl ?_
          unfold f_Mo_frame_410
          exact zEv.ip hm.k hα
      rcases j_block (O := O) hO hF hG hb ha r6 h28 c3 with z | ⟨hc', tb0', tb1', tb2', c', cb', d', done', to, M', M2', z1, z2, z3, z4, z5, z6, z7, z8, z9, z10, z11, z12, z13⟩
      · left
        exact (z.to zSt.rf zKp.rf zRf.rf (fun h => h) (fun hα => toM (zEv.bind hα (zEv.ip rfl (zEv.some _))))).lb hx (by omega) (fun hα => l_in hx h7 h0 (by omega) hα)
      have x1 := z6.1
      have a73 := x1.k73
      generalize hP : w_i M' (X + 73) 6 (nI to) = P
      have sP : zSt (fun q => q = X + 73) M' P := by rw [← hP]; exact zSt.rf.wi (by exact rfl)
      have kP : zKp X M' P := by rw [← hP]; exact zKp.rf.wi (Or.inl (by rw [a73]; omega))
      have fP := z6.w73 sP kP
      have g73 : ∀ f, f ≠ 6 → z_i P (X + 73) f = z_i M (X + 73) f := fun f hf => by rw [← hP, w_i_ne _ _ (fun w => hf w.2), z3.i (by unfold sRb sRd; omega)]
      have rdP : zRd P X to summed sized due sp := ⟨by rw [← hP, w_i_eq], (g73 8 (by omega)).trans r8, (g73 9 (by omega)).trans r9, by rw [← hP]; exact (z3.j (by unfold sRb sRd; omega) 10).trans r10, (g73 11 (by omega)).trans r11⟩
      have stP : zSt (sRd X) M P := (z3.mono (fun q hq => sRb_d hq)).tr (sP.mono (fun q hq => by unfold sRd; omega))
      have kpP := z4.tr kP
      have arP : zAr P M2' X m := ⟨(sP.i (by omega) 2).trans z9.1, (sP.i (by omega) 3).trans z9.2.1, (sP.i (by omega) 5).trans z9.2.2⟩
      have f0 : z_i P (X + 69) 0 = nI 0 := by rw [sP.i (by omega), z10]; exact h0
      have e3 : nb b p 3 = b p + 256 * nb b (p + 1) 2 := rfl
      have n3 : nb b p 3 < 16777216 := nb_lt (k := 3) (fun i hi => hin.b (by omega))
      have toC : ∀ {α : Int32 × zM}, zEv (fun n => if nI (b p % 2) = 0 then some ((1 : Int32), P) else (F_FR_endFrame O n (X + 73) P).bind fun q5 => if q5.1 = 0 then some ((0 : Int32), q5.2) else some ((1 : Int32), q5.2)) α → zEv (fun n => F_FR_block O n (X + 73) M) α := fun {α} hα => by
        refine z1 α ?_
        unfold f_FR_block_203 f_FR_block_231 f_FR_block_236
        refine zEv.in_ (show ¬ nI 1 = 0 by decide) (zEv.ip a73 (zEv.zl ?_))
        rw [hP, show nI (nb b p 3) &&& (1 : Int32) = nI (b p % 2) by rw [show nI (nb b p 3) &&& (1 : Int32) = nI (nb b p 3 % 2) from pk_andN (by omega) 1 (by decide), e3]; congr 1; omega]
        exact hα
      by_cases c2 : b p % 2 = 0
      · have ev : zEv (fun n => F_FR_block O n (X + 73) M) (1, P) := toC (zEv.ip (by rw [c2]; rfl) (zEv.some _))
        have st := l_in (s := s) hx h7 h0 (by omega) ev
        have tm : ∀ {α : Int32 × zM}, zEv (fun n => f_Mo_frame_375 O n m (nI head) (nI sb) (lN due) (nI sp) (0 : Int32) M2') α → zEv (fun n => f_Mo_frame_375 O n m (nI head) (nI sb) (lN due) (nI sp) (0 : Int32) M2) α := fun {α} hα => toM (zEv.bind z2 (zEv.in_ (show ¬ (1 : Int32) = 0 by decide) (by rw [c2]; exact hα)))
        rcases ih to (s + 1) c' done' cb' hc' tb0' tb1' tb2' d' P M2' (by omega) (by omega) fP z7 z8 arP rdP ((g73 7 (by omega)).trans h7) f0 z11 z13 with y | y
        · exact Or.inl (y.to stP kpP z5 st (fun hα => tm hα))
        · exact Or.inr (y.to stP kpP z5 (by omega) st (fun hα => tm hα))
      · have c2' : b p % 2 = 1 := by omega
        have tm : ∀ {α : Int32 × zM}, zEv (fun n => rE1 O n m (nI head) (nI sb) (lN due) (nI sp) M2') α → zEv (fun n => f_Mo_frame_375 O n m (nI head) (nI sb) (lN due) (nI sp) (0 : Int32) M2) α := fun {α} hα => toM (zEv.bind z2 (zEv.in_ (show ¬ (1 : Int32) = 0 by decide) (by
          rw [c2']
          refine zEv.succ ?_
          simp only [f_Mo_frame_375]
          exact zEv.in_ (by decide) hα)))
        have nz : ¬ nI (b p % 2) = 0 := by rw [c2']; decide
        rcases j_end (O := O) fP z7 z8 arP rdP z11 z13 hs hhd hz hsb hdue with y | ⟨pl', M3, M4, y1, y2, y3, y4, y5, y6, y7, y8, y9, y10⟩
        · left
          exact (y.to stP kpP z5 (fun hα => toC (zEv.in_ nz (zEv.bind hα (zEv.ip rfl (zEv.some _))))) (fun hα => tm hα)).lb hx (by omega) (fun hα => l_in hx h7 h0 (by omega) hα)
        · right
          have ev : zEv (fun n => F_FR_block O n (X + 73) M) (1, M3) := toC (zEv.in_ nz (zEv.bind y1 (zEv.in_ (show ¬ (1 : Int32) = 0 by decide) (zEv.some _))))
          refine ⟨s + 1, pl', c', cb', done', M3, M4, l_in hx h7 h0 (by omega) ev, tm y2, stP.tr (y3.mono (fun q hq => by unfold sRd; omega)), kpP.tr y4, z5.tr (y5.mono (fun f hf => by unfold fRe; omega) (fun q hq => by unfold sL4 at hq; unfold sRm; omega)), (fP.w73 y3 y4).oc, (z7.rf y5 (fun f hf => by omega) (fun q hq => by unfold sL4; omega)).om, ⟨?_, ?_, ?_⟩, y6, y7, ?_, y8, by omega, y10, by omega, z8.2.1⟩
          · rw [y3.i (by omega), y5.f (by omega)]; exact arP.1
          · rw [y3.i (by omega), y5.f (by omega)]; exact arP.2.1
          · rw [y3.i (by omega), y5.f (by omega)]; exact arP.2.2
          · rw [y3.i (by omega)]; exact f0
    · left
      have hh := hhas.2 c3
      have hlk := c_lacks (O := O) (k := 3) hx hin r6 hp (by omega)
      rw [if_neg c3] at hlk
      have ab := zAb.of hF hG ha
      refine (show jBd X m M M2 (fun n => F_FR_block O n (X + 73) M) (fun n => f_Mo_frame_375 O n m (nI head) (nI sb) (lN due) (nI sp) (0 : Int32) M2) from ⟨1, cN, M, M2, by omega, by omega, ?_, ?_, zSt.rf, zKp.rf, zRf.rf, ab, c, cb, hF.2.2.2.2.2.2.2.2.1⟩).lb hx (by omega) (fun hα => l_in hx h7 h0 (by omega) hα)
      · unfold F_FR_block f_FR_block_0
        exact zEv.ip k73 (zEv.bind hlk (zEv.in_ (show ¬ (1 : Int32) = 0 by decide) (zEv.ip k73 (zEv.bind (c_endsWithin hx hin) (zEv.ip (Or.inl rfl) (zEv.some _))))))
      · refine zEv.succ ?_
        simp only [f_Mo_frame_375]
        exact zEv.ip trivial (zEv.ip hm.k (zEv.bind hh (zEv.ip rfl (zEv.some _))))
