/-! With fuel enough: zEv f r. And numbers out of bytes. -/
def zEv {α : Type} (f : Nat → Option α) (r : α) : Prop := ∃ N, ∀ n, N ≤ n → f n = some r
theorem zEv.some {α : Type} (r : α) : zEv (fun _ => Option.some r) r := ⟨0, fun _ _ => rfl⟩
theorem zEv.bind {α β : Type} {f : Nat → Option α} {g : Nat → α → Option β} {a : α} {r : β} (h1 : zEv f a) (h2 : zEv (fun n => g n a) r) : zEv (fun n => (f n).bind (g n)) r := by
  obtain ⟨N1, h1⟩ := h1
  obtain ⟨N2, h2⟩ := h2
  refine ⟨N1 + N2, fun n hn => ?_⟩
  have e1 : f n = Option.some a := h1 n (by omega)
  have e2 : g n a = Option.some r := h2 n (by omega)
  show (f n).bind (g n) = Option.some r
  rw [e1]
  exact e2
theorem zEv.succ {α : Type} {f : Nat → Option α} {r : α} (h : zEv (fun n => f (n + 1)) r) : zEv f r := by
  obtain ⟨N, h⟩ := h
  refine ⟨N + 1, fun n hn => ?_⟩
  obtain ⟨k, rfl⟩ : ∃ k, n = k + 1 := ⟨n - 1, by omega⟩
  exact h k (by omega)
theorem zEv.to {α : Type} {f g : Nat → Option α} {r : α} (h : zEv g r) (e : ∀ n, f n = g n) : zEv f r := by
  obtain ⟨N, h⟩ := h
  exact ⟨N, fun n hn => by rw [e]; exact h n hn⟩
theorem zEv.eq {α : Type} {f : Nat → Option α} {r r' : α} (h : zEv f r) (e : r = r') : zEv f r' := e ▸ h
theorem zEv.ok {α : Type} {f : Nat → Option α} {r : α} (h : zEv f r) : ∃ n, f n = Option.some r := by
  obtain ⟨N, h⟩ := h
  exact ⟨N, h N (Nat.le_refl _)⟩
/-- numbers of k bytes, the lowest first -/
def nb (b : Nat → Nat) (a : Nat) : Nat → Nat
  | 0 => 0
  | k + 1 => b a + 256 * nb b (a + 1) k
theorem nb_lt {b : Nat → Nat} : ∀ {a k : Nat}, (∀ i, i < k → b (a + i) < 256) → nb b a k < 256 ^ k
  | a, 0, h => by simp [nb]
  | a, k + 1, h => by
    have h0 := h 0 (by omega)
    have h1 : nb b (a + 1) k < 256 ^ k := nb_lt (fun i hi => by have := h (i + 1) (by omega); rwa [show a + (i + 1) = a + 1 + i by omega] at this)
    simp only [nb]
    have e : 256 ^ (k + 1) = 256 * 256 ^ k := by rw [Nat.pow_succ, Nat.mul_comm]
    simp only [Nat.add_zero] at h0
    omega
theorem nb_top (b : Nat → Nat) : ∀ (a k : Nat), nb b a (k + 1) = nb b a k + 256 ^ k * b (a + k)
  | a, 0 => by simp [nb]
  | a, k + 1 => by
    have ih := nb_top b (a + 1) k
    rw [show nb b a (k + 1 + 1) = b a + 256 * nb b (a + 1) (k + 1) from rfl, ih, show nb b a (k + 1) = b a + 256 * nb b (a + 1) k from rfl]
    rw [show a + 1 + k = a + (k + 1) by omega, Nat.pow_succ, Nat.mul_add, ← Nat.mul_assoc, Nat.mul_comm 256 (256 ^ k)]
    omega
/-- a row of bytes: its object p, its array a, room N, count c, bytes b -/
def zRow (M : zM) (p a N c : Nat) (b : Nat → Nat) : Prop := z_k M p = 9 ∧ z_p M p 0 = a ∧ z_k M a = 101 ∧ z_n M a = N ∧ z_i M p 1 = nI c ∧ c ≤ N ∧ N ≤ 32768 ∧ ∀ j, j < c → b j < 256 ∧ z_i M a j = sb_b (b j)
theorem z_byte {v : Nat} (h : v < 256) : sb_b v &&& 255 = nI v := (sb_byte v h).1
theorem zin_nI {i n : Nat} (h : i < n) (hn : n < 2 ^ 31) : zin (nI i) n = true := decide_eq_true (nI_in h hn)
theorem nI_cl {n : Nat} (h : n < 2 ^ 31) : (nI n).toNatClampNeg = n := nI_clamp h
theorem c_Row_at {O : zO} {M : zM} {p a N c k : Nat} {b : Nat → Nat} (h : zRow M p a N c b) (hk : k < 2 ^ 31) : zEv (fun n => F_Row_at O n p (nI k) M) (nI (if k < c then b k else 0), M) := by
  obtain ⟨h1, h2, h3, h4, h5, h6, h7, h8⟩ := h
  refine (zEv.some _).to fun n => ?_
  unfold F_Row_at f_Row_at_0
  rw [if_neg (nI_pos hk), if_pos h1, h5]
  by_cases hc : k < c
  · rw [if_neg (fun w => by have := (nI_leI (by omega) hk).mp w; omega), h2, if_pos h3, h4, if_pos (zin_nI (by omega) (by omega)), nI_cl hk, (h8 k hc).2, z_byte (h8 k hc).1, if_pos hc]
    rfl
  · rw [if_pos ((nI_leI (by omega) hk).mpr (by omega)), if_neg hc]
    rfl
