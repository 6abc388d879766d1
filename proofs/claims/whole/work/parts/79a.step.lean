/-! Going through a text step by step. -/
theorem zEv.ip {α : Type} {c : Prop} [Decidable c] {f g : Nat → Option α} {r : α} (hc : c) (h : zEv f r) : zEv (fun n => if c then f n else g n) r := h.to fun _ => if_pos hc
theorem zEv.in_ {α : Type} {c : Prop} [Decidable c] {f g : Nat → Option α} {r : α} (hc : ¬ c) (h : zEv g r) : zEv (fun n => if c then f n else g n) r := h.to fun _ => if_neg hc
theorem zEv.zl {α β : Type} {x : β} {f : Nat → β → Option α} {r : α} (h : zEv (fun n => f n x) r) : zEv (fun n => zlet x (f n)) r := h
theorem zEv.bq {α β : Type} {f f' : Nat → Option α} {g : Nat → α → Option β} {a : α} {r : β} (h1 : zEv f a) (e : ∀ n, f' n = f n) (h2 : zEv (fun n => g n a) r) : zEv (fun n => (f' n).bind (g n)) r := zEv.bind (h1.to e) h2
theorem zEk.ip {κ α : Type} {c : Prop} [Decidable c] {f g : Nat → κ → Option α} {r : κ → Option α} (hc : c) (h : zEk f r) : zEk (fun n K => if c then f n K else g n K) r := h.to fun _ _ => if_pos hc
theorem zEk.in_ {κ α : Type} {c : Prop} [Decidable c] {f g : Nat → κ → Option α} {r : κ → Option α} (hc : ¬ c) (h : zEk g r) : zEk (fun n K => if c then f n K else g n K) r := h.to fun _ _ => if_neg hc
theorem zEk.zl {κ α β : Type} {x : β} {f : Nat → κ → β → Option α} {r : κ → Option α} (h : zEk (fun n K => f n K x) r) : zEk (fun n K => zlet x (f n K)) r := h
theorem zEk.bq {κ α β : Type} {f f' : Nat → Option β} {g : Nat → κ → β → Option α} {a : β} {r : κ → Option α} (h1 : zEv f a) (e : ∀ n, f' n = f n) (h2 : zEk (fun n K => g n K a) r) : zEk (fun n K => (f' n).bind (g n K)) r := zEk.bind (h1.to e) h2
