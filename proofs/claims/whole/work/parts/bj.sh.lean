/-! Constructors: new cells over an old memory, as numbers that begin at 1. -/
theorem z_ext {M M' : zM} (h1 : z_k M = z_k M') (h2 : z_n M = z_n M') (h3 : z_i M = z_i M') (h4 : z_j M = z_j M') (h5 : z_p M = z_p M') (h6 : z_s M = z_s M') : M = M' := by
  obtain ⟨a1, a2, a3, a4, a5, a6⟩ := M
  obtain ⟨b1, b2, b3, b4, b5, b6⟩ := M'
  have e1 : a1 = b1 := h1
  have e2 : a2 = b2 := h2
  have e3 : a3 = b3 := h3
  have e4 : a4 = b4 := h4
  have e5 : a5 = b5 := h5
  have e6 : a6 = b6 := h6
  subst e1 e2 e3 e4 e5 e6
  rfl
def sP (b v : Nat) : Nat := if v = 0 then 0 else b + v
theorem sP_p {b v : Nat} (h : 1 ≤ v) : sP b v = b + v := if_neg (by omega)
/-- the cells of D, beyond those of B -/
def sh (B D : zM) : zM := (fun q => if q ≤ z_s B then z_k B q else z_k D (q - z_s B), fun q => if q ≤ z_s B then z_n B q else z_n D (q - z_s B), fun q f => if q ≤ z_s B then z_i B q f else z_i D (q - z_s B) f, fun q f => if q ≤ z_s B then z_j B q f else z_j D (q - z_s B) f, fun q f => if q ≤ z_s B then z_p B q f else sP (z_s B) (z_p D (q - z_s B) f), z_s B + z_s D)
theorem sh_k (B D : zM) {a p : Nat} (ha : a = z_s B + p) (h : 1 ≤ p) : z_k (sh B D) a = z_k D p := by
  subst ha
  show (if z_s B + p ≤ z_s B then z_k B (z_s B + p) else z_k D (z_s B + p - z_s B)) = z_k D p
  rw [if_neg (by omega), Nat.add_sub_cancel_left]
theorem sh_n (B D : zM) {a p : Nat} (ha : a = z_s B + p) (h : 1 ≤ p) : z_n (sh B D) a = z_n D p := by
  subst ha
  show (if z_s B + p ≤ z_s B then z_n B (z_s B + p) else z_n D (z_s B + p - z_s B)) = z_n D p
  rw [if_neg (by omega), Nat.add_sub_cancel_left]
theorem sh_i (B D : zM) {a p : Nat} (ha : a = z_s B + p) (h : 1 ≤ p) (f : Nat) : z_i (sh B D) a f = z_i D p f := by
  subst ha
  show (if z_s B + p ≤ z_s B then z_i B (z_s B + p) f else z_i D (z_s B + p - z_s B) f) = z_i D p f
  rw [if_neg (by omega), Nat.add_sub_cancel_left]
theorem sh_j (B D : zM) {a p : Nat} (ha : a = z_s B + p) (h : 1 ≤ p) (f : Nat) : z_j (sh B D) a f = z_j D p f := by
  subst ha
  show (if z_s B + p ≤ z_s B then z_j B (z_s B + p) f else z_j D (z_s B + p - z_s B) f) = z_j D p f
  rw [if_neg (by omega), Nat.add_sub_cancel_left]
theorem sh_p (B D : zM) {a p : Nat} (ha : a = z_s B + p) (h : 1 ≤ p) (f : Nat) : z_p (sh B D) a f = sP (z_s B) (z_p D p f) := by
  subst ha
  show (if z_s B + p ≤ z_s B then z_p B (z_s B + p) f else sP (z_s B) (z_p D (z_s B + p - z_s B) f)) = sP (z_s B) (z_p D p f)
  rw [if_neg (by omega), Nat.add_sub_cancel_left]
theorem sh_q (B D : zM) {a p f f' v : Nat} (ha : a = z_s B + p) (h : 1 ≤ p) (hf : f = f') (hv : z_p D p f' = v) (h1 : 1 ≤ v) : z_p (sh B D) a f = z_s B + v := by
  subst hf hv
  rw [sh_p B D ha h, sP_p h1]
theorem sh_s (B D : zM) {v : Nat} (h : z_s D + 1 = v) : z_s (sh B D) + 1 = z_s B + v := by
  subst h
  rfl
theorem sh_wi (B D : zM) {a p : Nat} (ha : a = z_s B + p) (h : 1 ≤ p) (k : Nat) (x : Int32) : w_i (sh B D) a k x = sh B (w_i D p k x) := by
  subst ha
  refine z_ext rfl rfl (funext fun q => funext fun j => ?_) rfl rfl rfl
  show (if q = z_s B + p ∧ j = k then x else if q ≤ z_s B then z_i B q j else z_i D (q - z_s B) j) = (if q ≤ z_s B then z_i B q j else if q - z_s B = p ∧ j = k then x else z_i D (q - z_s B) j)
  by_cases c : q ≤ z_s B
  · rw [if_neg (by omega), if_pos c, if_pos c]
  · rw [if_neg c, if_neg c]
    by_cases e : q = z_s B + p ∧ j = k
    · rw [if_pos e, if_pos (by omega)]
    · rw [if_neg e, if_neg (by omega)]
theorem sh_wj (B D : zM) {a p : Nat} (ha : a = z_s B + p) (h : 1 ≤ p) (k : Nat) (x : Int64) : w_j (sh B D) a k x = sh B (w_j D p k x) := by
  subst ha
  refine z_ext rfl rfl rfl (funext fun q => funext fun j => ?_) rfl rfl
  show (if q = z_s B + p ∧ j = k then x else if q ≤ z_s B then z_j B q j else z_j D (q - z_s B) j) = (if q ≤ z_s B then z_j B q j else if q - z_s B = p ∧ j = k then x else z_j D (q - z_s B) j)
  by_cases c : q ≤ z_s B
  · rw [if_neg (by omega), if_pos c, if_pos c]
  · rw [if_neg c, if_neg c]
    by_cases e : q = z_s B + p ∧ j = k
    · rw [if_pos e, if_pos (by omega)]
    · rw [if_neg e, if_neg (by omega)]
theorem sh_wp (B D : zM) {a p : Nat} (ha : a = z_s B + p) (h : 1 ≤ p) (k v : Nat) : w_p (sh B D) a k (sP (z_s B) v) = sh B (w_p D p k v) := by
  subst ha
  refine z_ext rfl rfl rfl rfl (funext fun q => funext fun j => ?_) rfl
  show (if q = z_s B + p ∧ j = k then sP (z_s B) v else if q ≤ z_s B then z_p B q j else sP (z_s B) (z_p D (q - z_s B) j)) = (if q ≤ z_s B then z_p B q j else sP (z_s B) (if q - z_s B = p ∧ j = k then v else z_p D (q - z_s B) j))
  by_cases c : q ≤ z_s B
  · rw [if_neg (by omega), if_pos c, if_pos c]
  · rw [if_neg c, if_neg c]
    by_cases e : q = z_s B + p ∧ j = k
    · rw [if_pos e, if_pos (by omega)]
    · rw [if_neg e, if_neg (by omega)]
theorem sh_wa (B D : zM) (kd n : Nat) : w_a (sh B D) kd n = sh B (w_a D kd n) := by
  have hs : z_s (sh B D) = z_s B + z_s D := rfl
  refine z_ext (funext fun q => ?_) (funext fun q => ?_) (funext fun q => funext fun j => ?_) (funext fun q => funext fun j => ?_) (funext fun q => funext fun j => ?_) rfl
  · show (if q = z_s B + z_s D + 1 then kd else if q ≤ z_s B then z_k B q else z_k D (q - z_s B)) = (if q ≤ z_s B then z_k B q else if q - z_s B = z_s D + 1 then kd else z_k D (q - z_s B))
    by_cases c : q ≤ z_s B
    · rw [if_neg (by omega), if_pos c, if_pos c]
    · rw [if_neg c, if_neg c]
      by_cases e : q = z_s B + z_s D + 1
      · rw [if_pos e, if_pos (by omega)]
      · rw [if_neg e, if_neg (by omega)]
  · show (if q = z_s B + z_s D + 1 then n else if q ≤ z_s B then z_n B q else z_n D (q - z_s B)) = (if q ≤ z_s B then z_n B q else if q - z_s B = z_s D + 1 then n else z_n D (q - z_s B))
    by_cases c : q ≤ z_s B
    · rw [if_neg (by omega), if_pos c, if_pos c]
    · rw [if_neg c, if_neg c]
      by_cases e : q = z_s B + z_s D + 1
      · rw [if_pos e, if_pos (by omega)]
      · rw [if_neg e, if_neg (by omega)]
  · show (if q = z_s B + z_s D + 1 then 0 else if q ≤ z_s B then z_i B q j else z_i D (q - z_s B) j) = (if q ≤ z_s B then z_i B q j else if q - z_s B = z_s D + 1 then 0 else z_i D (q - z_s B) j)
    by_cases c : q ≤ z_s B
    · rw [if_neg (by omega), if_pos c, if_pos c]
    · rw [if_neg c, if_neg c]
      by_cases e : q = z_s B + z_s D + 1
      · rw [if_pos e, if_pos (by omega)]
      · rw [if_neg e, if_neg (by omega)]
  · show (if q = z_s B + z_s D + 1 then 0 else if q ≤ z_s B then z_j B q j else z_j D (q - z_s B) j) = (if q ≤ z_s B then z_j B q j else if q - z_s B = z_s D + 1 then 0 else z_j D (q - z_s B) j)
    by_cases c : q ≤ z_s B
    · rw [if_neg (by omega), if_pos c, if_pos c]
    · rw [if_neg c, if_neg c]
      by_cases e : q = z_s B + z_s D + 1
      · rw [if_pos e, if_pos (by omega)]
      · rw [if_neg e, if_neg (by omega)]
  · show (if q = z_s B + z_s D + 1 then 0 else if q ≤ z_s B then z_p B q j else sP (z_s B) (z_p D (q - z_s B) j)) = (if q ≤ z_s B then z_p B q j else sP (z_s B) (if q - z_s B = z_s D + 1 then 0 else z_p D (q - z_s B) j))
    by_cases c : q ≤ z_s B
    · rw [if_neg (by omega), if_pos c, if_pos c]
    · rw [if_neg c, if_neg c]
      by_cases e : q = z_s B + z_s D + 1
      · rw [if_pos e, if_pos (by omega)]
        rfl
      · rw [if_neg e, if_neg (by omega)]
/-! Steps -/
theorem x_k {α : Type} {B D : zM} {a p K : Nat} {f g : Nat → Option α} {r : α} (ha : a = z_s B + p) (hp : 1 ≤ p) (h : z_k D p = K) (w : zEv f r) : zEv (fun n => if z_k (sh B D) a = K then f n else g n) r := zEv.ip ((sh_k B D ha hp).trans h) w
theorem x_z {α : Type} {B D : zM} {a p : Nat} {i : Int32} {f g : Nat → Option α} {r : α} (ha : a = z_s B + p) (hp : 1 ≤ p) (h : zin i (z_n D p) = true) (w : zEv f r) : zEv (fun n => if zin i (z_n (sh B D) a) = true then f n else g n) r := zEv.ip (by rw [sh_n B D ha hp]; exact h) w
theorem x_a {α : Type} {B D D' : zM} {kd m m' : Nat} {g : Nat → zM → Option α} {r : α} (hD : D' = w_a D kd m') (hm : m = m') (w : zEv (fun n => g n (sh B D')) r) : zEv (fun n => zlet (w_a (sh B D) kd m) (g n)) r := by
  subst hD hm
  refine zEv.zl ?_
  rw [sh_wa]
  exact w
theorem x_p {α : Type} {B D D' : zM} {a p f f' v v' : Nat} {g : Nat → zM → Option α} {r : α} (hD : D' = w_p D p f' v') (ha : a = z_s B + p) (hp : 1 ≤ p) (hf : f = f') (hv : v = z_s B + v') (h1 : 1 ≤ v') (w : zEv (fun n => g n (sh B D')) r) : zEv (fun n => zlet (w_p (sh B D) a f v) (g n)) r := by
  subst hD hf hv
  refine zEv.zl ?_
  rw [← sP_p (b := z_s B) h1, sh_wp B D ha hp]
  exact w
theorem x_p0 {α : Type} {B D D' : zM} {a p f : Nat} {g : Nat → zM → Option α} {r : α} (hD : D' = w_p D p f 0) (ha : a = z_s B + p) (hp : 1 ≤ p) (w : zEv (fun n => g n (sh B D')) r) : zEv (fun n => zlet (w_p (sh B D) a f 0) (g n)) r := by
  subst hD
  refine zEv.zl ?_
  rw [show w_p (sh B D) a f 0 = w_p (sh B D) a f (sP (z_s B) 0) from rfl, sh_wp B D ha hp]
  exact w
theorem x_i {α : Type} {B D D' : zM} {a p f f' : Nat} {x x' : Int32} {g : Nat → zM → Option α} {r : α} (hD : D' = w_i D p f' x') (ha : a = z_s B + p) (hp : 1 ≤ p) (hf : f = f') (hx : x = x') (w : zEv (fun n => g n (sh B D')) r) : zEv (fun n => zlet (w_i (sh B D) a f x) (g n)) r := by
  subst hD hf hx
  refine zEv.zl ?_
  rw [sh_wi B D ha hp]
  exact w
theorem x_j {α : Type} {B D D' : zM} {a p f : Nat} {x : Int64} {g : Nat → zM → Option α} {r : α} (hD : D' = w_j D p f x) (ha : a = z_s B + p) (hp : 1 ≤ p) (w : zEv (fun n => g n (sh B D')) r) : zEv (fun n => zlet (w_j (sh B D) a f x) (g n)) r := by
  subst hD
  refine zEv.zl ?_
  rw [sh_wj B D ha hp]
  exact w
theorem x_b {α : Type} {B D' : zM} {f : Nat → Option (Unit × zM)} {g : Nat → Unit × zM → Option α} {r : α} (h1 : zEv f ((), sh B D')) (w : zEv (fun n => g n ((), sh B D')) r) : zEv (fun n => (f n).bind (g n)) r := zEv.bind h1 w
theorem t_b {O : zO} (hO : zTabOk O) {i : Nat} (hi : i < 10) : O.2.1 (O.1 i) = true := (hO i hi).1
theorem t_z {O : zO} (hO : zTabOk O) {i : Nat} (hi : i < 10) {x : Int32} (h : zin x (zTab i).length = true) : zin x (O.2.2.1 (O.1 i)) = true := by
  rw [(hO i hi).2.1]
  exact h
theorem t_v {O : zO} (hO : zTabOk O) {i j j' : Nat} {v : Int32} (hi : i < 10) (hj : j = j') (h : j' < (zTab i).length) (hv : (zTab i).getD j' 0 = v) : O.2.2.2 (O.1 i) j = v := by
  subst hj
  rw [(hO i hi).2.2 j h]
  exact hv
/-! The small ones -/
/-- a new array, and a field that shows it -/
def kA (D : zM) (p kd n f : Nat) : zM := w_p (w_a D kd n) p f (z_s D + 1)
theorem kA_ok {D : zM} {p kd n f K : Nat} (h : z_k D p = K) (hp : p ≤ z_s D) : z_k (w_a D kd n) p = K ∧ z_k (kA D p kd n f) p = K ∧ p ≤ z_s (kA D p kd n f) := by
  have e : z_k (w_a D kd n) p = K := by
    rw [w_a_k, if_neg (by omega)]
    exact h
  exact ⟨e, e, by show p ≤ z_s D + 1; omega⟩
theorem x_A {α : Type} {B D D' : zM} {a p kd m m' f K : Nat} {g : Nat → zM → Option α} {g2 : Nat → zM → Option α} {r : α} (hD : D' = kA D p kd m' f) (ha : a = z_s B + p) (hp : 1 ≤ p) (hm : m = m') (hk : z_k D p = K) (hs : p ≤ z_s D) (w : zEv (fun n => g n (sh B D')) r) : zEv (fun n => zlet (w_a (sh B D) kd m) fun M2 => if z_k M2 a = K then zlet (w_p M2 a f (z_s (sh B D) + 1)) (g n) else g2 n M2) r := by
  subst hD
  exact x_a rfl hm (x_k ha hp (kA_ok (f := 0) hk hs).1 (x_p rfl ha hp rfl (sh_s B D rfl) (by omega) w))
def kRow (D : zM) (p N : Nat) : zM := w_i (kA D p 101 N 0) p 1 0
theorem k_Row {O : zO} {B D D' : zM} {a p N : Nat} {x : Int32} (hD : D' = kRow D p N) (ha : a = z_s B + p) (hp : 1 ≤ p) (hk : z_k D p = 9) (hs : p ≤ z_s D) (hx : ¬ x ≤ 0 ∧ ¬ x < 0 ∧ x.toNatClampNeg = N) (hN : N ≤ 32768) : zEv (fun n => F_Row_init O n a x (sh B D)) ((), sh B D') := by
  subst hD
  unfold F_Row_init f_Row_init_0 f_Row_init_14
  refine x_k ha hp hk (zEv.in_ hx.1 (zEv.ip ⟨hx.2.1, by rw [hx.2.2]; exact hN⟩ ?_))
  exact x_A rfl ha hp hx.2.2 hk hs (x_k ha hp (kA_ok hk hs).2.1 (x_i rfl ha hp rfl rfl (zEv.some _)))
def kLat (D : zM) (p : Nat) : zM := w_j (w_j (w_j D p 0 1) p 1 4) p 2 8
theorem k_Lat {O : zO} {B D D' : zM} {a p : Nat} (hD : D' = kLat D p) (ha : a = z_s B + p) (hp : 1 ≤ p) (hk : z_k D p = 6) : zEv (fun n => F_Latest_init O n a (sh B D)) ((), sh B D') := by
  subst hD
  unfold F_Latest_init f_Latest_init_0
  exact x_k ha hp hk (x_j rfl ha hp (x_j rfl ha hp (x_j rfl ha hp (zEv.some _))))
def kStr (D : zM) (p : Nat) : zM := w_i (w_i (w_p D p 0 0) p 1 0) p 2 0
theorem k_Str {O : zO} {B D D' : zM} {a p : Nat} (hD : D' = kStr D p) (ha : a = z_s B + p) (hp : 1 ≤ p) (hk : z_k D p = 12) : zEv (fun n => F_Stream_init O n a (sh B D)) ((), sh B D') := by
  subst hD
  unfold F_Stream_init f_Stream_init_0
  exact x_k ha hp hk (x_p0 rfl ha hp (x_i rfl ha hp rfl rfl (x_i rfl ha hp rfl rfl (zEv.some _))))
theorem k_Rep {O : zO} {B D : zM} {a p : Nat} (ha : a = z_s B + p) (hp : 1 ≤ p) (hk : z_k D p = 8) : zEv (fun n => F_Rep_init O n a (sh B D)) ((), sh B D) := by
  unfold F_Rep_init f_Rep_init_0
  exact x_k ha hp hk (zEv.some _)
def kSh (D : zM) (p : Nat) (g l : Int32) (n1 n2 : Nat) : zM := w_i (w_i (w_p (w_i (kA (kA (kA (kA (kA (w_i (w_i D p 0 g) p 1 l) p 100 n1 2) p 100 n1 3) p 100 n2 4) p 100 n2 5) p 100 n2 6) p 7 0) p 8 0) p 9 0) p 10 0
theorem k_Sh {O : zO} {B D D' : zM} {a p n1 n2 : Nat} {x y g l : Int32} (hD : D' = kSh D p g l n1 n2) (ha : a = z_s B + p) (hp : 1 ≤ p) (hk : z_k D p = 11) (hs : p ≤ z_s D) (hx : x = g) (hy : y = l) (h1 : ¬ (l + 1) < 0 ∧ (l + 1).toNatClampNeg = n1 ∧ n1 ≤ 53) (h2 : ¬ ((1 : Int32) <<< (g &&& 31)) < 0 ∧ ((1 : Int32) <<< (g &&& 31)).toNatClampNeg = n2 ∧ n2 ≤ 512) : zEv (fun n => F_Share_init O n a x y (sh B D)) ((), sh B D') := by
  subst hD hx hy
  unfold F_Share_init f_Share_init_0
  have c1 : ¬ (y + 1) < 0 ∧ (y + 1).toNatClampNeg ≤ 53 := ⟨h1.1, by rw [h1.2.1]; exact h1.2.2⟩
  have c2 : ¬ ((1 : Int32) <<< (x &&& 31)) < 0 ∧ ((1 : Int32) <<< (x &&& 31)).toNatClampNeg ≤ 512 := ⟨h2.1, by rw [h2.2.1]; exact h2.2.2⟩
  have k0 : z_k (w_i (w_i D p 0 x) p 1 y) p = 11 := hk
  have s0 : p ≤ z_s (w_i (w_i D p 0 x) p 1 y) := hs
  have k1 := (kA_ok (kd := 100) (n := n1) (f := 2) k0 s0).2
  have k2 := (kA_ok (kd := 100) (n := n1) (f := 3) k1.1 k1.2).2
  have k3 := (kA_ok (kd := 100) (n := n2) (f := 4) k2.1 k2.2).2
  have k4 := (kA_ok (kd := 100) (n := n2) (f := 5) k3.1 k3.2).2
  refine x_k ha hp hk (x_i rfl ha hp rfl rfl (x_i rfl ha hp rfl rfl (zEv.ip c1 ?_)))
  refine x_A rfl ha hp h1.2.1 k0 s0 (zEv.ip c1 ?_)
  refine x_A rfl ha hp h1.2.1 k1.1 k1.2 (zEv.ip c2 ?_)
  refine x_A rfl ha hp h2.2.1 k2.1 k2.2 (zEv.ip c2 ?_)
  refine x_A rfl ha hp h2.2.1 k3.1 k3.2 (zEv.ip c2 ?_)
  refine x_A rfl ha hp h2.2.1 k4.1 k4.2 ?_
  exact x_i rfl ha hp rfl rfl (x_p0 rfl ha hp (x_i rfl ha hp rfl rfl (x_i rfl ha hp rfl rfl (zEv.some _))))
