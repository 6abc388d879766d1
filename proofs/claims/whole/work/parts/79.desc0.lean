/-! A description, as functions. -/
def sm (f : Nat → Nat) : Nat → Nat
  | 0 => 0
  | n + 1 => sm f n + f n
theorem sm_0 : ∀ {f : Nat → Nat} {n : Nat}, (∀ i, i < n → f i = 0) → sm f n = 0
  | f, 0, _ => rfl
  | f, n + 1, h => by
    show sm f n + f n = 0
    rw [sm_0 (fun i hi => h i (by omega)), h n (by omega)]
theorem sm_add (f g : Nat → Nat) : ∀ n, sm (fun i => f i + g i) n = sm f n + sm g n
  | 0 => rfl
  | n + 1 => by
    show sm (fun i => f i + g i) n + (f n + g n) = sm f n + f n + (sm g n + g n)
    rw [sm_add f g n]
    omega
theorem sm_swap (f : Nat → Nat → Nat) (n : Nat) : ∀ m, sm (fun a => sm (fun b => f a b) n) m = sm (fun b => sm (fun a => f a b) m) n
  | 0 => (sm_0 (fun _ _ => rfl)).symm
  | m + 1 => by
    show sm (fun a => sm (fun b => f a b) n) m + sm (fun b => f m b) n = sm (fun b => sm (fun a => f a b) m + f m b) n
    rw [sm_add, sm_swap f n m]
theorem sm_eq {f g : Nat → Nat} : ∀ {n : Nat}, (∀ i, i < n → f i = g i) → sm f n = sm g n
  | 0, _ => rfl
  | n + 1, h => by
    show sm f n + f n = sm g n + g n
    rw [sm_eq (fun i hi => h i (by omega)), h n (by omega)]
theorem sm_one {f : Nat → Nat} {i0 v : Nat} : ∀ {n : Nat}, i0 < n → f i0 = v → (∀ i, i < n → i ≠ i0 → f i = 0) → sm f n = v
  | 0, h, _, _ => by omega
  | n + 1, h, h1, h2 => by
    show sm f n + f n = v
    by_cases c : i0 = n
    · rw [sm_0 (fun i hi => h2 i (by omega) (by omega)), ← c, h1]; omega
    · rw [sm_one (by omega) h1 (fun i hi hn => h2 i (by omega) hn), h2 n (by omega) (fun w => c w.symm)]; rfl
theorem sm_le {f : Nat → Nat} {i : Nat} : ∀ {n : Nat}, i < n → f i ≤ sm f n
  | 0, h => by omega
  | n + 1, h => by
    show f i ≤ sm f n + f n
    by_cases c : i = n
    · rw [c]; omega
    · have := sm_le (f := f) (show i < n by omega); omega
/-- the sum that a weight stands for -/
def wv (v : Nat) : Nat := if 0 < v then 2 ^ (v - 1) else 0
def wgt (w : Nat → Nat) (n : Nat) : Nat := sm (fun k => wv (w k)) n
def one1 (w : Nat → Nat) : Nat → Nat
  | 0 => 0
  | n + 1 => one1 w n + if w n = 1 then 1 else 0
def plW (b : Nat → Nat) (fr : Nat) : Nat → Nat := fun k => if k % 2 = 0 then b (fr + k / 2) / 16 else b (fr + k / 2) % 16
def cut (w : Nat → Nat) (n : Nat) : Nat → Nat := fun k => if k < n then w k else 0
def dsE (b : Nat → Nat) (fr : Nat) : Nat := fr + 1 + (if 127 < b fr then (b fr - 126) / 2 else b fr)
def wtS (T B E : Nat → Nat) (b : Nat → Nat) (p : Nat) : Nat → Nat → Nat → Nat → Nat → (Nat → Nat) → Option (Nat × (Nat → Nat))
  | 0, _, _, _, _, _ => none
  | f + 1, n, L, now, oth, w => if L < B now then (if n + 1 = 255 then none else some (n + 2, upN (upN w n (T now)) (n + 1) (T oth)))
    else wtS T B E b p f (n + 1) (L - B now) oth (E now + bf b (8 * p + L - B now) (B now)) (upN w n (T now))
def dsW (b : Nat → Nat) (fr : Nat) : Option (Nat × (Nat → Nat)) :=
  if 127 < b fr then some (b fr - 127, plW b (fr + 1)) else
    match shT b (fr + 1) (dsE b fr) 6 11 with
    | none => none
    | some (o, u, p) => match opS b p (dsE b fr) with
      | none => none
      | some L => if L < 2 * o then none else wtS (tS o u) (bS o u) (eS o u) b p 255 0 (L - o - o) (bf b (8 * p + L - o) o) (bf b (8 * p + (L - o) - o) o) (fun _ => 0)
/-- the weights told made whole: order, weights; none when that can't be -/
def dsC (n : Nat) (w : Nat → Nat) : Option (Nat × (Nat → Nat)) :=
  if wgt w n = 0 then none else if 11 < hib (wgt w n) + 1 then none
  else if 2 ^ hib (2 ^ (hib (wgt w n) + 1) - wgt w n) ≠ 2 ^ (hib (wgt w n) + 1) - wgt w n then none
  else if one1 w n + (if hib (2 ^ (hib (wgt w n) + 1) - wgt w n) + 1 = 1 then 1 else 0) < 2 then none
  else some (hib (wgt w n) + 1, cut (upN w n (hib (2 ^ (hib (wgt w n) + 1) - wgt w n) + 1)) (n + 1))
def dsS (b : Nat → Nat) (fr to : Nat) : Option (Nat × (Nat → Nat) × Nat) :=
  if to ≤ fr then none else if to < dsE b fr then none else
    match dsW b fr with
    | none => none
    | some (n, w) => match dsC n w with
      | none => none
      | some (t, w') => some (t, w', dsE b fr)
/-- CODES: an order and weights -/
def zCW (t : Nat) (w : Nat → Nat) : Prop := 1 ≤ t ∧ t ≤ 11 ∧ wgt w 256 = 2 ^ t ∧ (∀ s, w s ≤ t) ∧ (∀ s, 256 ≤ s → w s = 0) ∧ ∃ s, s < 256 ∧ w s = 1
theorem wgt_s (w : Nat → Nat) (n : Nat) : wgt w (n + 1) = wgt w n + wv (w n) := rfl
theorem wgt_cut {w : Nat → Nat} {n : Nat} : ∀ {N : Nat}, n ≤ N → wgt (cut w n) N = wgt w n := by
  intro N
  induction N with
  | zero => intro h; rw [show n = 0 by omega]; rfl
  | succ N ih =>
    intro h
    by_cases c : n = N + 1
    · rw [c]
      exact sm_eq (fun i hi => by unfold cut; rw [if_pos hi])
    · rw [wgt_s, ih (by omega)]
      unfold cut
      rw [if_neg (by omega)]
      rfl
theorem wgt_up {w : Nat → Nat} {n v : Nat} : wgt (upN w n v) (n + 1) = wgt w n + wv v := by
  rw [wgt_s]
  congr 1
  · exact sm_eq (fun i hi => by unfold upN; rw [if_neg (by omega)])
  · unfold upN; rw [if_pos rfl]
theorem wv_le {v s : Nat} (h : wv v ≤ s) (hs : 0 < s) : v ≤ hib s + 1 := by
  unfold wv at h
  by_cases c : 0 < v
  · rw [if_pos c] at h
    obtain ⟨a1, a2⟩ := (hib_iff hs).mp rfl
    have : 2 ^ (v - 1) < 2 ^ (hib s + 1) := by omega
    have := (Nat.pow_lt_pow_iff_right (a := 2) (by omega)).mp this
    omega
  · omega
theorem one1_ex {w : Nat → Nat} : ∀ {n : Nat}, 0 < one1 w n → ∃ s, s < n ∧ w s = 1
  | 0, h => by simp [one1] at h
  | n + 1, h => by
    by_cases c : w n = 1
    · exact ⟨n, by omega, c⟩
    · have h' : 0 < one1 w n := by
        have : one1 w (n + 1) = one1 w n + 0 := by show one1 w n + (if w n = 1 then 1 else 0) = _; rw [if_neg c]
        omega
      obtain ⟨s, s1, s2⟩ := one1_ex h'
      exact ⟨s, by omega, s2⟩
theorem dsC_ok {n t : Nat} {w w' : Nat → Nat} (hn : n ≤ 255) (h : dsC n w = some (t, w')) : zCW t w' := by
  unfold dsC at h
  by_cases c1 : wgt w n = 0
  · rw [if_pos c1] at h; cases h
  rw [if_neg c1] at h
  by_cases c2 : 11 < hib (wgt w n) + 1
  · rw [if_pos c2] at h; cases h
  rw [if_neg c2] at h
  generalize hr : 2 ^ (hib (wgt w n) + 1) - wgt w n = r at h
  by_cases c3 : 2 ^ hib r ≠ r
  · rw [if_pos c3] at h; cases h
  rw [if_neg c3] at h
  by_cases c4 : one1 w n + (if hib r + 1 = 1 then 1 else 0) < 2
  · rw [if_pos c4] at h; cases h
  rw [if_neg c4] at h
  simp only [Option.some.injEq, Prod.mk.injEq] at h
  obtain ⟨h1, h2⟩ := h
  obtain ⟨a1, a2⟩ := (hib_iff (v := wgt w n) (by omega)).mp rfl
  have hr0 : 0 < r := by omega
  have hrt : hib r < hib (wgt w n) + 1 := hib_lt (by omega) hr0
  have hvr : wv (hib r + 1) = r := by
    unfold wv
    rw [if_pos (by omega), show hib r + 1 - 1 = hib r by omega]
    exact Classical.byContradiction fun x => c3 x
  subst h1
  subst h2
  refine ⟨by omega, by omega, ?_, fun s => ?_, fun s hs => ?_, ?_⟩
  · rw [wgt_cut (by omega), wgt_up, hvr]; omega
  · unfold cut
    by_cases d : s < n + 1
    · rw [if_pos d]
      unfold upN
      by_cases e : s = n
      · rw [if_pos e]; omega
      · rw [if_neg e]
        have := sm_le (f := fun k => wv (w k)) (show s < n by omega)
        exact wv_le this (by show 0 < wgt w n; omega)
    · rw [if_neg d]; omega
  · unfold cut; rw [if_neg (by omega)]
  · have : 0 < one1 w n := by
      by_cases e : hib r + 1 = 1
      · rw [if_pos e] at c4; omega
      · rw [if_neg e] at c4; omega
    obtain ⟨s, s1, s2⟩ := one1_ex this
    refine ⟨s, by omega, ?_⟩
    unfold cut upN
    rw [if_pos (by omega), if_neg (by omega)]
    exact s2
theorem wtS_n {T B E b : Nat → Nat} {p : Nat} : ∀ (f n L now oth : Nat) (w : Nat → Nat) (n' : Nat) (w' : Nat → Nat), n + f = 255 → wtS T B E b p f n L now oth w = some (n', w') → n' ≤ 255
  | 0, n, L, now, oth, w, n', w', _, h => by simp [wtS] at h
  | f + 1, n, L, now, oth, w, n', w', hf, h => by
    simp only [wtS] at h
    split at h
    · split at h
      · cases h
      · cases h; omega
    · exact wtS_n f _ _ _ _ _ _ _ (by omega) h
theorem dsW_n {b : Nat → Nat} {fr n : Nat} {w : Nat → Nat} (hb : b fr < 256) (h : dsW b fr = some (n, w)) : n ≤ 255 := by
  unfold dsW at h
  split at h
  · simp only [Option.some.injEq, Prod.mk.injEq] at h
    omega
  · split at h
    · cases h
    · split at h
      · cases h
      · split at h
        · cases h
        · exact wtS_n _ _ _ _ _ _ _ _ (by omega) h
theorem dsS_ok {b : Nat → Nat} {fr to t e : Nat} {w : Nat → Nat} (hb : b fr < 256) (h : dsS b fr to = some (t, w, e)) : zCW t w ∧ fr < e ∧ e ≤ to := by
  unfold dsS at h
  split at h
  · cases h
  · split at h
    · cases h
    · split at h
      · cases h
      · rename_i n w' hw
        split at h
        · cases h
        · rename_i t' w'' hc
          cases h
          refine ⟨dsC_ok (dsW_n hb hw) hc, ?_, by omega⟩
          unfold dsE
          omega
/-- the cells -/
def am (w : Nat → Nat) (i : Nat) : Nat := if w (i % 256) = i / 256 + 1 then 2 ^ (i / 256) else 0
def amu (w : Nat → Nat) : Nat → Nat := fun i => am w i + 1
def clS (t : Nat) (w : Nat → Nat) (c : Nat) : Nat := sy (amu w) (256 * t) 0 c % 256
theorem cum_am (w : Nat → Nat) (a : Nat) : ∀ s, s ≤ 256 → cum (amu w) (256 * a + s) = cum (amu w) (256 * a) + sm (fun s => if w s = a + 1 then 2 ^ a else 0) s
  | 0, _ => rfl
  | s + 1, h => by
    show cum (amu w) (256 * a + s) + (am w (256 * a + s) + 1 - 1) = _
    rw [cum_am w a s (by omega)]
    show _ = _ + (sm (fun s => if w s = a + 1 then 2 ^ a else 0) s + (if w s = a + 1 then 2 ^ a else 0))
    unfold am
    rw [show (256 * a + s) % 256 = s by omega, show (256 * a + s) / 256 = a by omega]
    omega
theorem cum_all (w : Nat → Nat) : ∀ t, cum (amu w) (256 * t) = sm (fun a => sm (fun s => if w s = a + 1 then 2 ^ a else 0) 256) t
  | 0 => rfl
  | t + 1 => by
    rw [show 256 * (t + 1) = 256 * t + 256 by omega, cum_am w t 256 (by omega), cum_all w t]
    rfl
theorem cum_CW {t : Nat} {w : Nat → Nat} (h : zCW t w) : cum (amu w) (256 * t) = 2 ^ t := by
  obtain ⟨h1, h2, h3, h4, h5, h6⟩ := h
  rw [cum_all, sm_swap, ← h3]
  refine sm_eq (fun s _ => ?_)
  unfold wv
  by_cases c : 0 < w s
  · rw [if_pos c]
    have := h4 s
    exact sm_one (i0 := w s - 1) (by omega) (by rw [if_pos (by omega)]) (fun i _ hn => by rw [if_neg (by omega)])
  · rw [if_neg c]
    exact sm_0 (fun i _ => by rw [if_neg (by omega)])
theorem clS_ok {t c : Nat} {w : Nat → Nat} (h : zCW t w) (hc : c < 2 ^ t) : clS t w c < 256 ∧ 1 ≤ w (clS t w c) ∧ w (clS t w c) ≤ t := by
  have h1 := sy_ok (amu w) (256 * t) 0 c (by rw [show cum (amu w) 0 = 0 from rfl, Nat.zero_add, cum_CW h]; omega)
  refine ⟨Nat.mod_lt _ (by omega), ?_, h.2.2.2.1 _⟩
  have h2 := h1.1
  unfold amu am at h2
  by_cases d : w (sy (amu w) (256 * t) 0 c % 256) = sy (amu w) (256 * t) 0 c / 256 + 1
  · show 1 ≤ w (sy (amu w) (256 * t) 0 c % 256)
    omega
  · unfold amu am at d
    rw [if_neg d] at h2
    omega
