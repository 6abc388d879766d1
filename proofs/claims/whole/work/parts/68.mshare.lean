/-! A share told: the reference. -/
/-- the same, of a text that goes on at K -/
def zEk {κ α : Type} (f : Nat → κ → Option α) (g : κ → Option α) : Prop := ∃ N, ∀ n, N ≤ n → ∀ K, f n K = g K
theorem zEk.of {κ α : Type} {f : Nat → κ → Option α} {g : κ → Option α} (h : ∀ n K, f n K = g K) : zEk f g := ⟨0, fun n _ K => h n K⟩
theorem zEk.succ {κ α : Type} {f : Nat → κ → Option α} {g : κ → Option α} (h : zEk (fun n => f (n + 1)) g) : zEk f g := by
  obtain ⟨N, h⟩ := h
  refine ⟨N + 1, fun n hn K => ?_⟩
  obtain ⟨k, rfl⟩ : ∃ k, n = k + 1 := ⟨n - 1, by omega⟩
  exact h k (by omega) K
theorem zEk.to {κ α : Type} {f f' : Nat → κ → Option α} {g : κ → Option α} (h : zEk f' g) (e : ∀ n K, f n K = f' n K) : zEk f g := by
  obtain ⟨N, h⟩ := h
  exact ⟨N, fun n hn K => by rw [e]; exact h n hn K⟩
theorem zEk.bind {κ α β : Type} {h : Nat → Option β} {a : β} {f : Nat → κ → β → Option α} {g : κ → Option α} (h1 : zEv h a) (h2 : zEk (fun n K => f n K a) g) : zEk (fun n K => (h n).bind (f n K)) g := by
  obtain ⟨N1, h1⟩ := h1
  obtain ⟨N2, h2⟩ := h2
  refine ⟨N1 + N2, fun n hn K => ?_⟩
  have e1 : h n = Option.some a := h1 n (by omega)
  have e2 : f n K a = g K := h2 n (by omega) K
  show (h n).bind (f n K) = g K
  rw [e1]
  exact e2
theorem zEk.use {κ α : Type} {f : Nat → κ → Option α} {g : κ → Option α} {k : Nat → κ} {r : α} (h : zEk f g) (h2 : zEv (fun n => g (k n)) r) : zEv (fun n => f n (k n)) r := by
  obtain ⟨N1, h⟩ := h
  obtain ⟨N2, h2⟩ := h2
  exact ⟨N1 + N2, fun n hn => (h n (by omega) (k n)).trans (h2 n (by omega))⟩
theorem zIn13.si {S : Nat → Prop} {M M1 : zM} {p a c : Nat} {b : Nat → Nat} (h : zIn13 M p a c b) (g : zSi S M M1) (hp : ¬ S p) (ha : ¬ S a) : zIn13 M1 p a c b := by
  obtain ⟨h1, h2, h3, h4, h5, h6, h7⟩ := h
  obtain ⟨g1, g2, g3, g4, g5, g6⟩ := g
  exact ⟨by rw [g1]; exact h1, by rw [g5]; exact h2, by rw [g1]; exact h3, by rw [g2]; exact h4, by rw [g6 _ _ hp]; exact h5, h6, fun j hj => ⟨(h7 j hj).1, by rw [g6 _ _ ha]; exact (h7 j hj).2⟩⟩
abbrev zK118 : Type := Nat → Int32 → Int32 → Int32 → Int32 → Int32 → zM → Option (Int32 × zM)
theorem l_Mo_zeros {O : zO} {M : zM} {p a c last e R : Nat} {b : Nat → Nat} (h : zIn13 M p a c b) (he : e ≤ 8 * c) (hla : last ≤ 52) : ∀ (f s pos : Nat), last + 2 ≤ s + f → s ≤ last + 1 → pos ≤ e →
    zEk (fun n (K : zK118) => f_Mo_share_312 O K n p (nI last) (nI pos) (nI e) (nI R) (nI s) 1 M) (match zrS b e last f s pos with
    | some (s', p2) => fun K => K p (nI last) (nI p2) (nI e) (nI R) (nI s') M
    | none => fun _ => some (-1, M)) ∧ ∀ s' p2, zrS b e last f s pos = some (s', p2) → s ≤ s' ∧ s' ≤ last + 1 ∧ pos ≤ p2 ∧ p2 ≤ e := by
  have h6 := h.2.2.2.2.2.1
  intro f
  induction f with
  | zero => intro s pos h1 h2; omega
  | succ f ih =>
    intro s pos h1 h2 h3
    rw [zrS]
    by_cases c1 : e < pos + 2
    · rw [if_pos c1]
      refine ⟨zEk.succ (zEk.of fun n K => ?_), fun s' p2 w => by cases w⟩
      rw [f_Mo_share_312, if_neg (by decide), if_neg (fun w => by rw [show (2 : Int32) = nI 2 from rfl, nI_add] at w; have := (nI_leI (by omega) (by omega)).mp w; omega)]
    · rw [if_neg c1]
      have e2 : bf b pos 2 = bt8 b pos + 2 * bt8 b (pos + 1) := by simp [bf]
      have t1 := bt8_lt b pos
      have t2 := bt8_lt b (pos + 1)
      have start : ∀ {G : zK118 → Option (Int32 × zM)}, zEk (fun n K => if nI (s + bf b pos 2) ≤ nI (last + 1) then
          if nI (bf b pos 2) = (3 : Int32) then f_Mo_share_312 O K n p (nI last) (nI (pos + 2)) (nI e) (nI R) (nI (s + bf b pos 2)) 1 M
          else f_Mo_share_312 O K n p (nI last) (nI (pos + 2)) (nI e) (nI R) (nI (s + bf b pos 2)) 0 M
          else some ((-1 : Int32), M)) G → zEk (fun n K => f_Mo_share_312 O K n p (nI last) (nI pos) (nI e) (nI R) (nI s) 1 M) G := fun hG => by
        refine zEk.succ ?_
        refine zEk.to (f' := fun n K => (F_Mo_bit O n p (nI pos) M).bind fun q2 => if z_k q2.2 p = 13 then (F_Mo_bit O n p (nI pos + (1 : Int32)) q2.2).bind fun q5 =>
            if (nI s + (q2.1 + ((2 : Int32) * q5.1))) ≤ (nI last + (1 : Int32)) then
            if q2.1 + ((2 : Int32) * q5.1) = (3 : Int32) then f_Mo_share_379 O K (f_Mo_share_312 O K n) n p (nI last) (nI pos + (2 : Int32)) (nI e) (nI R) (nI s + (q2.1 + ((2 : Int32) * q5.1))) (1 : Int32) q5.2
            else f_Mo_share_379 O K (f_Mo_share_312 O K n) n p (nI last) (nI pos + (2 : Int32)) (nI e) (nI R) (nI s + (q2.1 + ((2 : Int32) * q5.1))) (0 : Int32) q5.2
            else some ((-1 : Int32), q5.2) else none) ?_ (fun n K => by
          rw [f_Mo_share_312, if_neg (by decide), if_pos (show nI pos + (2 : Int32) ≤ nI e from by rw [show (2 : Int32) = nI 2 from rfl, nI_add]; exact nI_le (by omega) (by omega)), if_pos h.1]
          rfl)
        refine zEk.bind (c_Mo_bit h (by omega)) ?_
        simp only [if_pos h.1, nI_1]
        refine zEk.bind (c_Mo_bit h (by omega)) ?_
        refine hG.to fun n K => ?_
        dsimp only
        rw [show (2 : Int32) = nI 2 from rfl, pk_mul, nI_add, nI_add, nI_add, ← e2]
        rfl
      by_cases c2 : last + 1 < s + bf b pos 2
      · rw [if_pos c2]
        refine ⟨start (zEk.of fun n K => ?_), fun s' p2 w => by cases w⟩
        rw [if_neg (fun w => by have := (nI_leI (by omega) (by omega)).mp w; omega)]
      · rw [if_neg c2]
        by_cases c3 : bf b pos 2 = 3
        · rw [if_pos c3]
          obtain ⟨i1, i2⟩ := ih (s + 3) (pos + 2) (by omega) (by omega) (by omega)
          refine ⟨start (i1.to fun n K => ?_), fun s' p2 w => by have := i2 s' p2 w; omega⟩
          rw [if_pos (nI_le (by omega) (by omega)), c3, if_pos (show nI 3 = 3 from rfl)]
        · rw [if_neg c3]
          refine ⟨start (zEk.succ (zEk.of fun n K => ?_)), fun s' p2 w => by cases w; omega⟩
          rw [if_pos (nI_le (by omega) (by omega)), if_neg (show ¬ nI (bf b pos 2) = 3 from fun w => c3 ((nI_eq (b := 3) (by omega) (by omega)).mp w)), f_Mo_share_312, if_pos rfl]
theorem l_Mo_u {O : zO} {M : zM} {p a c e w R t m last s pos : Nat} {b : Nat → Nat} (h : zIn13 M p a c b) (he : e ≤ 8 * c) (hw : w ≤ 10) (hpe : pos + w ≤ e) {G : zK118 → Option (Int32 × zM)}
    (hG : zEk (fun n K => f_Mo_share_176 O K n p (nI last) (nI pos) (nI e) (nI R) (nI s) (nI w) (nI t) (nI m) (nI (bf b pos w)) (nI w) M) G) : ∀ j, j ≤ w → zEk (fun n K => f_Mo_share_176 O K n p (nI last) (nI pos) (nI e) (nI R) (nI s) (nI w) (nI t) (nI m) (nI (bf b pos (w - j))) (nI (w - j)) M) G := by
  have h6 := h.2.2.2.2.2.1
  intro j
  induction j with
  | zero => intro _; exact hG
  | succ j ih =>
    intro hj
    have hlt := bf_lt b pos (w - (j + 1))
    have hp : 2 ^ (w - (j + 1)) ≤ 2 ^ 9 := Nat.pow_le_pow_right (by omega) (by omega)
    have hb := bt8_lt b (pos + (w - (j + 1)))
    refine zEk.succ ?_
    refine zEk.to (f' := fun n K => (F_Mo_bit O n p (nI (pos + (w - (j + 1)))) M).bind fun q14 => f_Mo_share_176 O K n p (nI last) (nI pos) (nI e) (nI R) (nI s) (nI w) (nI t) (nI m) (nI (bf b pos (w - (j + 1))) + (q14.1 <<< (nI (w - (j + 1)) &&& 31))) (nI (w - (j + 1)) + 1) q14.2) ?_ (fun n K => by
      rw [f_Mo_share_176, if_neg (fun z => by have := (nI_leI (by omega) (by omega)).mp z; omega), if_pos h.1, nI_add]
      rfl)
    refine zEk.bind (c_Mo_bit h (by omega)) ((ih (by omega)).to fun n K => ?_)
    dsimp only
    have h9 : bt8 b (pos + (w - (j + 1))) * 2 ^ (w - (j + 1)) ≤ 1 * 2 ^ 9 := Nat.mul_le_mul (by omega) hp
    rw [nI_shl (by omega) (by omega), nI_add, nI_1, show w - j = w - (j + 1) + 1 by omega, Nat.mul_comm]
    rfl
