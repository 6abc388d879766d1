/-! A row of ints written anew; the walk over the places. -/
def w_u (M : zM) (p : Nat) (g : Nat → Int32) : zM := (M.1, M.2.1, fun q j => if q = p then g j else M.2.2.1 q j, M.2.2.2.1, M.2.2.2.2.1, M.2.2.2.2.2)
theorem w_u_k (M : zM) (p : Nat) (g : Nat → Int32) : z_k (w_u M p g) = z_k M := rfl
theorem w_u_n (M : zM) (p : Nat) (g : Nat → Int32) : z_n (w_u M p g) = z_n M := rfl
theorem w_u_i (M : zM) (p : Nat) (g : Nat → Int32) (q j : Nat) : z_i (w_u M p g) q j = if q = p then g j else z_i M q j := rfl
theorem w_u_j (M : zM) (p : Nat) (g : Nat → Int32) : z_j (w_u M p g) = z_j M := rfl
theorem w_u_p (M : zM) (p : Nat) (g : Nat → Int32) : z_p (w_u M p g) = z_p M := rfl
theorem w_u_s (M : zM) (p : Nat) (g : Nat → Int32) : z_s (w_u M p g) = z_s M := rfl
theorem w_i_w (M : zM) (p k : Nat) (x : Int32) : w_i M p k x = w_u M p (upd (z_i M p) k x) := by
  refine zM_ext (fun _ => rfl) (fun _ => rfl) (fun q j => ?_) (fun _ _ => rfl) (fun _ _ => rfl) rfl
  rw [w_i_i, w_u_i]
  by_cases c : q = p
  · subst c
    rw [if_pos rfl, upd_at]
    by_cases d : j = k
    · rw [if_pos ⟨rfl, d⟩, if_pos d]
    · rw [if_neg (fun w => d w.2), if_neg d]
  · rw [if_neg (fun w => c w.1), if_neg c]
theorem w_u_w (M : zM) (p k : Nat) (g : Nat → Int32) (x : Int32) : w_i (w_u M p g) p k x = w_u M p (upd g k x) := by
  refine zM_ext (fun _ => rfl) (fun _ => rfl) (fun q j => ?_) (fun _ _ => rfl) (fun _ _ => rfl) rfl
  rw [w_i_i, w_u_i, w_u_i]
  by_cases c : q = p
  · subst c
    rw [if_pos rfl, if_pos rfl, upd_at]
    by_cases d : j = k
    · rw [if_pos ⟨rfl, d⟩, if_pos d]
    · rw [if_neg (fun w => d w.2), if_neg d]
  · rw [if_neg (fun w => c w.1), if_neg c, if_neg c]
theorem w_u_self (M : zM) (p : Nat) : w_u M p (z_i M p) = M := by
  refine zM_ext (fun _ => rfl) (fun _ => rfl) (fun q j => ?_) (fun _ _ => rfl) (fun _ _ => rfl) rfl
  rw [w_u_i]
  by_cases c : q = p
  · rw [if_pos c, c]
  · rw [if_neg c]
theorem w_u_u (M : zM) (p : Nat) (g h : Nat → Int32) : w_u (w_u M p g) p h = w_u M p h := by
  refine zM_ext (fun _ => rfl) (fun _ => rfl) (fun q j => ?_) (fun _ _ => rfl) (fun _ _ => rfl) rfl
  simp only [w_u_i]
  by_cases c : q = p
  · simp only [if_pos c]
  · simp only [if_neg c]
theorem w_u_c (M : zM) {p q : Nat} (g h : Nat → Int32) (hpq : p ≠ q) : w_u (w_u M p g) q h = w_u (w_u M q h) p g := by
  refine zM_ext (fun _ => rfl) (fun _ => rfl) (fun r j => ?_) (fun _ _ => rfl) (fun _ _ => rfl) rfl
  simp only [w_u_i]
  by_cases c : r = p
  · rw [if_pos c, if_neg (fun w => hpq (c.symm.trans w)), if_pos c]
  · rw [if_neg c, if_neg c]
theorem q_nf {a b : Nat} (h : a < b ∨ b < a) : (a = b) = False := eq_false (by omega)
/-- the walk -/
def stp (o : Nat) : Nat := 2 ^ o / 2 + 2 ^ o / 8 + 3
def wk (o i : Nat) : Nat := i * stp o % 2 ^ o
def wiv (o : Nat) : Nat := if o = 5 then 7 else if o = 6 then 3 else if o = 7 then 91 else if o = 8 then 11 else 363
def wki (o k : Nat) : Nat := k * wiv o % 2 ^ o
def cw (o t : Nat) : Nat → Nat
  | 0 => 0
  | i + 1 => cw o t i + if wk o i < t then 1 else 0
theorem wk_i (o : Nat) (h : 5 ≤ o) (h2 : o ≤ 9) : (∀ i, i < 2 ^ o → wki o (wk o i) = i) ∧ (∀ k, k < 2 ^ o → wk o (wki o k) = k) := by
  rcases (show o = 5 ∨ o = 6 ∨ o = 7 ∨ o = 8 ∨ o = 9 by omega) with rfl | rfl | rfl | rfl | rfl
  · exact ⟨by decide +kernel, by decide +kernel⟩
  · exact ⟨by decide +kernel, by decide +kernel⟩
  · exact ⟨by decide +kernel, by decide +kernel⟩
  · exact ⟨by decide +kernel, by decide +kernel⟩
  · exact ⟨by decide +kernel, by decide +kernel⟩
theorem wk_lt (o i : Nat) : wk o i < 2 ^ o := Nat.mod_lt _ (Nat.pow_pos (by omega))
theorem wki_lt (o i : Nat) : wki o i < 2 ^ o := Nat.mod_lt _ (Nat.pow_pos (by omega))
theorem wk_s (o i : Nat) : wk o (i + 1) = (wk o i + stp o) % 2 ^ o := by
  unfold wk
  rw [Nat.add_mul, Nat.one_mul, Nat.mod_add_mod]
theorem wk_0 (o : Nat) : wk o 0 = 0 := by unfold wk; rw [Nat.zero_mul, Nat.zero_mod]
theorem wk_all (o : Nat) : wk o (2 ^ o) = 0 := by unfold wk; exact Nat.mul_mod_right _ _
/-- how many of the first i have P -/
def ctb (P : Nat → Bool) : Nat → Nat
  | 0 => 0
  | i + 1 => ctb P i + if P i then 1 else 0
theorem ctb_le (P : Nat → Bool) : ∀ i, ctb P i ≤ i
  | 0 => Nat.le_refl _
  | i + 1 => by have := ctb_le P i; simp only [ctb]; split <;> omega
theorem ctb_mono (P : Nat → Bool) : ∀ {i j : Nat}, i ≤ j → ctb P i ≤ ctb P j := by
  intro i j h
  induction j with
  | zero => rw [show i = 0 by omega]; exact Nat.le_refl _
  | succ j ih =>
    by_cases c : i = j + 1
    · rw [c]; exact Nat.le_refl _
    · have := ih (by omega)
      simp only [ctb]
      omega
theorem ctb_none {P : Nat → Bool} : ∀ {n : Nat}, (∀ i, i < n → P i = false) → ctb P n = 0
  | 0, _ => rfl
  | n + 1, h => by
    simp only [ctb]
    rw [ctb_none (fun i hi => h i (by omega)), h n (by omega)]
    rfl
theorem ctb_one {P : Nat → Bool} {i0 : Nat} : ∀ {n : Nat}, i0 < n → (∀ i, i < n → (P i = true ↔ i = i0)) → ctb P n = 1
  | 0, h, _ => by omega
  | n + 1, h, hP => by
    simp only [ctb]
    by_cases c : i0 = n
    · have h1 : ctb P n = 0 := ctb_none (fun i hi => by
        have := (hP i (by omega))
        cases hb : P i with
        | false => rfl
        | true => have := this.mp hb; omega)
      have h2 : P n = true := (hP n (by omega)).mpr c.symm
      rw [h1, h2]; rfl
    · have h1 : ctb P n = 1 := ctb_one (by omega) (fun i hi => hP i (by omega))
      have h2 : P n = false := by
        cases hb : P n with
        | false => rfl
        | true => have := (hP n (by omega)).mp hb; omega
      rw [h1, h2]; rfl
theorem ctb_add (P Q R : Nat → Bool) : ∀ {n : Nat}, (∀ i, i < n → (if P i then 1 else 0 : Nat) = (if Q i then 1 else 0) + (if R i then 1 else 0)) → ctb P n = ctb Q n + ctb R n
  | 0, _ => rfl
  | n + 1, h => by
    have h1 := ctb_add P Q R (n := n) (fun i hi => h i (by omega))
    have h2 := h n (by omega)
    simp only [ctb]
    omega
theorem cw_ctb (o t : Nat) : ∀ i, cw o t i = ctb (fun i => decide (wk o i < t)) i
  | 0 => rfl
  | i + 1 => by simp only [cw, ctb, cw_ctb o t i, decide_eq_true_eq]
theorem cw_all {o : Nat} (h : 5 ≤ o) (h2 : o ≤ 9) : ∀ t, t ≤ 2 ^ o → cw o t (2 ^ o) = t := by
  intro t
  induction t with
  | zero =>
    intro _
    rw [cw_ctb]
    exact ctb_none (fun i _ => by simp)
  | succ t ih =>
    intro ht
    obtain ⟨w1, w2⟩ := wk_i o h h2
    have h1 := ih (by omega)
    rw [cw_ctb] at h1 ⊢
    rw [ctb_add (fun i => decide (wk o i < t + 1)) (fun i => decide (wk o i < t)) (fun i => decide (wk o i = t)), h1, ctb_one (i0 := wki o t) (wki_lt _ _)]
    · intro i hi
      rw [decide_eq_true_eq]
      exact ⟨fun e => by rw [← e, w1 i hi], fun e => by rw [e]; exact w2 t (by omega)⟩
    · intro i _
      simp only [decide_eq_true_eq]
      by_cases a : wk o i < t
      · rw [if_pos (by omega), if_pos a, if_neg (by omega)]
      · by_cases b : wk o i = t
        · rw [if_pos (by omega), if_neg a, if_pos b]
        · rw [if_neg (by omega), if_neg a, if_neg b]
theorem cw_mono (o t : Nat) {i j : Nat} (h : i ≤ j) : cw o t i ≤ cw o t j := by rw [cw_ctb, cw_ctb]; exact ctb_mono _ h
theorem cw_lt {o t i j : Nat} (h : i < j) (hi : wk o i < t) : cw o t i < cw o t j := by
  have h1 : cw o t (i + 1) = cw o t i + 1 := by simp only [cw]; rw [if_pos hi]
  have := cw_mono o t (show i + 1 ≤ j by omega)
  omega
theorem cw_inj {o t i j : Nat} (hi : wk o i < t) (hj : wk o j < t) (h : cw o t i = cw o t j) : i = j := by
  rcases Nat.lt_trichotomy i j with c | c | c
  · have := cw_lt c hi; omega
  · exact c
  · have := cw_lt c hj; omega
/-- the index of a rank -/
theorem cw_at {o t r : Nat} (h : 5 ≤ o) (h2 : o ≤ 9) (ht : t ≤ 2 ^ o) (hr : r < t) : ∃ i, i < 2 ^ o ∧ wk o i < t ∧ cw o t i = r := by
  have go : ∀ n, n ≤ 2 ^ o → r < cw o t n → ∃ i, i < n ∧ wk o i < t ∧ cw o t i = r := by
    intro n
    induction n with
    | zero => intro _ h0; simp [cw] at h0
    | succ n ih =>
      intro hn h0
      by_cases c : r < cw o t n
      · obtain ⟨i, i1, i2⟩ := ih (by omega) c
        exact ⟨i, by omega, i2⟩
      · simp only [cw] at h0
        by_cases d : wk o n < t
        · rw [if_pos d] at h0; exact ⟨n, by omega, d, by omega⟩
        · rw [if_neg d] at h0; omega
  obtain ⟨i, i1, i2⟩ := go (2 ^ o) (Nat.le_refl _) (by rw [cw_all h h2 t ht]; exact hr)
  exact ⟨i, i1, i2⟩
theorem cw_gap {o t i j e : Nat} (h1 : cw o t i + 1 = cw o t j) (hi : wk o i < t) (he : i < e) (he2 : e < j) : ¬ wk o e < t := fun w => by
  have := cw_lt he hi
  have := cw_lt he2 w
  omega
/-- counts over the symbols -/
def hcn (u : Nat → Nat) : Nat → Nat
  | 0 => 0
  | s + 1 => hcn u s + if u s = 0 then 1 else 0
def cum (u : Nat → Nat) : Nat → Nat
  | 0 => 0
  | s + 1 => cum u s + (u s - 1)
def sy (u : Nat → Nat) : Nat → Nat → Nat → Nat
  | 0, s, _ => s
  | f + 1, s, r => if r + 1 < u s then s else sy u f (s + 1) (r - (u s - 1))
def hsy (u : Nat → Nat) : Nat → Nat → Nat → Nat
  | 0, s, _ => s
  | f + 1, s, r => if u s = 0 then (if r = 0 then s else hsy u f (s + 1) (r - 1)) else hsy u f (s + 1) r
theorem sy_at (u : Nat → Nat) : ∀ (s f k : Nat), sy u (f + s) 0 (cum u s + k) = sy u f s k
  | 0, f, k => by simp [cum]
  | s + 1, f, k => by
    rw [show f + (s + 1) = (f + 1) + s by omega, show cum u (s + 1) + k = cum u s + ((u s - 1) + k) by simp only [cum]; omega, sy_at u s (f + 1) ((u s - 1) + k)]
    simp only [sy]
    rw [if_neg (by omega), show u s - 1 + k - (u s - 1) = k by omega]
theorem hsy_at (u : Nat → Nat) : ∀ (s f k : Nat), hsy u (f + s) 0 (hcn u s + k) = hsy u f s k
  | 0, f, k => by simp [hcn]
  | s + 1, f, k => by
    rw [show f + (s + 1) = (f + 1) + s by omega]
    by_cases c : u s = 0
    · rw [show hcn u (s + 1) + k = hcn u s + (k + 1) by simp only [hcn, if_pos c]; omega, hsy_at u s (f + 1) (k + 1)]
      simp only [hsy, if_pos c]
      rw [if_neg (by omega), show k + 1 - 1 = k by omega]
    · rw [show hcn u (s + 1) + k = hcn u s + k by simp only [hcn, if_neg c]; omega, hsy_at u s (f + 1) k]
      simp only [hsy, if_neg c]
/-- the symbol found has points -/
theorem sy_ok (u : Nat → Nat) : ∀ (f s r : Nat), r + cum u s < cum u (s + f) → 1 < u (sy u f s r) ∧ sy u f s r < s + f
  | 0, s, r, h => by simp at h; omega
  | f + 1, s, r, h => by
    simp only [sy]
    by_cases c : r + 1 < u s
    · rw [if_pos c]; exact ⟨by omega, by omega⟩
    · rw [if_neg c]
      have := sy_ok u f (s + 1) (r - (u s - 1)) (by rw [show s + 1 + f = s + (f + 1) by omega]; simp only [cum] at *; omega)
      exact ⟨this.1, by omega⟩
theorem hsy_ok (u : Nat → Nat) : ∀ (f s r : Nat), r + hcn u s < hcn u (s + f) → u (hsy u f s r) = 0 ∧ hsy u f s r < s + f
  | 0, s, r, h => by simp at h; omega
  | f + 1, s, r, h => by
    simp only [hsy]
    by_cases c : u s = 0
    · rw [if_pos c]
      by_cases d : r = 0
      · rw [if_pos d]; exact ⟨c, by omega⟩
      · rw [if_neg d]
        have := hsy_ok u f (s + 1) (r - 1) (by rw [show s + 1 + f = s + (f + 1) by omega]; simp only [hcn, if_pos c] at *; omega)
        exact ⟨this.1, by omega⟩
    · rw [if_neg c]
      have := hsy_ok u f (s + 1) r (by rw [show s + 1 + f = s + (f + 1) by omega]; simp only [hcn, if_neg c] at *; omega)
      exact ⟨this.1, by omega⟩
/-- a share: its order, its points (one more than), its last symbol -/
def zSh (o last : Nat) (u : Nat → Nat) : Prop := 5 ≤ o ∧ o ≤ 9 ∧ last < 64 ∧ hcn u 64 + cum u 64 = 2 ^ o ∧ ∀ s, last < s → u s = 1
/-- the symbol of a place -/
def tS (o : Nat) (u : Nat → Nat) (k : Nat) : Nat := if k < 2 ^ o - hcn u 64 then sy u 64 0 (cw o (2 ^ o - hcn u 64) (wki o k)) else hsy u 64 0 (2 ^ o - 1 - k)
theorem hcn_mono (u : Nat → Nat) {i j : Nat} (h : i ≤ j) : hcn u i ≤ hcn u j := by
  induction j with
  | zero => rw [show i = 0 by omega]; exact Nat.le_refl _
  | succ j ih =>
    by_cases c : i = j + 1
    · rw [c]; exact Nat.le_refl _
    · have := ih (by omega)
      simp only [hcn]; omega
theorem cum_mono (u : Nat → Nat) {i j : Nat} (h : i ≤ j) : cum u i ≤ cum u j := by
  induction j with
  | zero => rw [show i = 0 by omega]; exact Nat.le_refl _
  | succ j ih =>
    by_cases c : i = j + 1
    · rw [c]; exact Nat.le_refl _
    · have := ih (by omega)
      simp only [cum]; omega
theorem hc_end {u : Nat → Nat} {last : Nat} (h : ∀ s, last < s → u s = 1) : ∀ {n : Nat}, last < n → hcn u n = hcn u (last + 1) ∧ cum u n = cum u (last + 1) := by
  intro n
  induction n with
  | zero => intro h0; omega
  | succ n ih =>
    intro h0
    by_cases c : n = last
    · rw [c]; exact ⟨rfl, rfl⟩
    · obtain ⟨h1, h2⟩ := ih (by omega)
      have := h n (by omega)
      rw [show hcn u (n + 1) = hcn u n + (if u n = 0 then 1 else 0) from rfl, show cum u (n + 1) = cum u n + (u n - 1) from rfl, this, if_neg (by omega)]
      omega
theorem tS_ok {o last : Nat} {u : Nat → Nat} (h : zSh o last u) {k : Nat} (hk : k < 2 ^ o) : u (tS o u k) ≠ 1 ∧ tS o u k ≤ last := by
  obtain ⟨h1, h2, h3, h4, h5⟩ := h
  have key : u (tS o u k) ≠ 1 := by
    unfold tS
    by_cases c : k < 2 ^ o - hcn u 64
    · rw [if_pos c]
      have hw : cw o (2 ^ o - hcn u 64) (wki o k) < 2 ^ o - hcn u 64 := by
        have := cw_lt (o := o) (t := 2 ^ o - hcn u 64) (wki_lt o k) (by rw [(wk_i o h1 h2).2 k hk]; exact c)
        rw [cw_all h1 h2 _ (by omega)] at this
        exact this
      have := (sy_ok u 64 0 (cw o (2 ^ o - hcn u 64) (wki o k)) (by rw [show cum u 0 = 0 from rfl, Nat.zero_add, Nat.add_zero]; omega)).1
      omega
    · rw [if_neg c]
      have := (hsy_ok u 64 0 (2 ^ o - 1 - k) (by rw [show hcn u 0 = 0 from rfl, Nat.zero_add, Nat.add_zero]; omega)).1
      omega
  refine ⟨key, ?_⟩
  apply Classical.byContradiction
  intro c
  exact key (h5 _ (by omega))
/-- the number of a place among its symbol's -/
def xS (o : Nat) (u : Nat → Nat) (k : Nat) : Nat := (if u (tS o u k) = 0 then 1 else u (tS o u k) - 1) + ctb (fun j => tS o u j == tS o u k) k
def bS (o : Nat) (u : Nat → Nat) (k : Nat) : Nat := o - hib (xS o u k)
def eS (o : Nat) (u : Nat → Nat) (k : Nat) : Nat := xS o u k * 2 ^ bS o u k - 2 ^ o
theorem u_le {o last : Nat} {u : Nat → Nat} (h : zSh o last u) (s : Nat) : u s ≤ 2 ^ o + 1 := by
  obtain ⟨h1, h2, h3, h4, h5⟩ := h
  by_cases c : last < s
  · rw [h5 s c]; have : 0 < 2 ^ o := Nat.pow_pos (by omega); omega
  · have h6 := cum_mono u (show s + 1 ≤ 64 by omega)
    rw [show cum u (s + 1) = cum u s + (u s - 1) from rfl] at h6
    omega
theorem xS_ok {o last : Nat} {u : Nat → Nat} (h : zSh o last u) {k : Nat} (hk : k < 2 ^ o) : 1 ≤ xS o u k ∧ xS o u k < 2 * 2 ^ o := by
  have h1 := (tS_ok h hk).1
  have h2 := u_le h (tS o u k)
  have h3 := ctb_le (fun j => tS o u j == tS o u k) k
  unfold xS
  split <;> omega
theorem bS_ok {o last : Nat} {u : Nat → Nat} (h : zSh o last u) {k : Nat} (hk : k < 2 ^ o) : hib (xS o u k) ≤ o ∧ bS o u k ≤ o ∧ 2 ^ o ≤ xS o u k * 2 ^ bS o u k ∧ xS o u k * 2 ^ bS o u k < 2 * 2 ^ o ∧ eS o u k + 2 ^ bS o u k ≤ 2 ^ o := by
  obtain ⟨x1, x2⟩ := xS_ok h hk
  obtain ⟨a1, a2⟩ := (hib_iff (v := xS o u k) (by omega)).mp rfl
  have hl : hib (xS o u k) ≤ o := by have := hib_lt (v := xS o u k) (k := o + 1) (by rw [Nat.pow_succ]; omega) (by omega); omega
  have e1 : 2 ^ hib (xS o u k) * 2 ^ bS o u k = 2 ^ o := by rw [← Nat.pow_add]; congr 1; unfold bS; omega
  have h1 : 2 ^ o ≤ xS o u k * 2 ^ bS o u k := by rw [← e1]; exact Nat.mul_le_mul_right _ a1
  have h2 : (xS o u k + 1) * 2 ^ bS o u k ≤ 2 ^ (hib (xS o u k) + 1) * 2 ^ bS o u k := Nat.mul_le_mul_right _ a2
  have h3 : 2 ^ (hib (xS o u k) + 1) * 2 ^ bS o u k = 2 * 2 ^ o := by rw [Nat.pow_succ, Nat.mul_assoc, Nat.mul_comm 2, ← Nat.mul_assoc, e1]; omega
  have h4 : (xS o u k + 1) * 2 ^ bS o u k = xS o u k * 2 ^ bS o u k + 2 ^ bS o u k := by rw [Nat.add_mul, Nat.one_mul]
  have h5 : 0 < 2 ^ bS o u k := Nat.pow_pos (by omega)
  refine ⟨hl, by unfold bS; omega, h1, by omega, by unfold eS; omega⟩
