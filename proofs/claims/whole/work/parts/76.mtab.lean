/-! The reference's shape; its tables. -/
def zMo (M : zM) (m : Nat) : Prop := z_k M m = 13 ∧ z_p M m 0 = m + 1 ∧ z_k M (m + 1) = 100 ∧ z_n M (m + 1) = 12000 ∧ z_p M m 2 = m + 2 ∧ z_k M (m + 2) = 100 ∧ z_n M (m + 2) = 32768 ∧ z_p M m 4 = m + 3 ∧ z_k M (m + 3) = 100 ∧ z_n M (m + 3) = 12000 ∧ z_p M m 8 = m + 4 ∧ z_k M (m + 4) = 100 ∧ z_n M (m + 4) = 256 ∧ z_p M m 9 = m + 5 ∧ z_k M (m + 5) = 100 ∧ z_n M (m + 5) = 192 ∧ z_p M m 10 = m + 6 ∧ z_k M (m + 6) = 100 ∧ z_n M (m + 6) = 3 ∧ z_p M m 11 = m + 7 ∧ z_k M (m + 7) = 103 ∧ z_n M (m + 7) = 3 ∧ z_p M m 12 = m + 8 ∧ z_k M (m + 8) = 100 ∧ z_n M (m + 8) = 256 ∧ z_p M m 14 = m + 9 ∧ z_k M (m + 9) = 100 ∧ z_n M (m + 9) = 2048 ∧ z_p M m 15 = m + 10 ∧ z_k M (m + 10) = 100 ∧ z_n M (m + 10) = 192 ∧ z_p M m 16 = m + 11 ∧ z_k M (m + 11) = 100 ∧ z_n M (m + 11) = 3 ∧ z_p M m 17 = m + 12 ∧ z_k M (m + 12) = 100 ∧ z_n M (m + 12) = 1536 ∧ z_p M m 18 = m + 13 ∧ z_k M (m + 13) = 100 ∧ z_n M (m + 13) = 1536 ∧ z_p M m 19 = m + 14 ∧ z_k M (m + 14) = 100 ∧ z_n M (m + 14) = 1536 ∧ z_p M m 20 = m + 15 ∧ z_k M (m + 15) = 103 ∧ z_n M (m + 15) = 3 ∧ z_p M m 21 = m + 16 ∧ z_k M (m + 16) = 100 ∧ z_n M (m + 16) = 256 ∧ z_p M m 23 = m + 17 ∧ z_k M (m + 17) = 100 ∧ z_n M (m + 17) = 256 ∧ z_p M m 24 = m + 18 ∧ z_k M (m + 18) = 100 ∧ z_n M (m + 18) = 256 ∧ z_p M m 25 = m + 19 ∧ z_k M (m + 19) = 100 ∧ z_n M (m + 19) = 64 ∧ z_p M m 26 = m + 20 ∧ z_k M (m + 20) = 100 ∧ z_n M (m + 20) = 64 ∧ z_p M m 27 = m + 21 ∧ z_k M (m + 21) = 100 ∧ z_n M (m + 21) = 64 ∧ z_p M m 40 = m + 22 ∧ z_k M (m + 22) = 100 ∧ z_n M (m + 22) = 32768 ∧ z_p M m 41 = m + 23 ∧ z_k M (m + 23) = 100 ∧ z_n M (m + 23) = 131072 ∧ z_p M m 49 = m + 24 ∧ z_k M (m + 24) = 103 ∧ z_n M (m + 24) = 4
theorem zMo.k {M : zM} {m : Nat} (h : zMo M m) : z_k M m = 13 := h.1
theorem zMo.p1 {M : zM} {m : Nat} (h : zMo M m) : z_p M m 0 = m + 1 := h.2.1
theorem zMo.k1 {M : zM} {m : Nat} (h : zMo M m) : z_k M (m + 1) = 100 := h.2.2.1
theorem zMo.n1 {M : zM} {m : Nat} (h : zMo M m) : z_n M (m + 1) = 12000 := h.2.2.2.1
theorem zMo.p2 {M : zM} {m : Nat} (h : zMo M m) : z_p M m 2 = m + 2 := h.2.2.2.2.1
theorem zMo.k2 {M : zM} {m : Nat} (h : zMo M m) : z_k M (m + 2) = 100 := h.2.2.2.2.2.1
theorem zMo.n2 {M : zM} {m : Nat} (h : zMo M m) : z_n M (m + 2) = 32768 := h.2.2.2.2.2.2.1
theorem zMo.p3 {M : zM} {m : Nat} (h : zMo M m) : z_p M m 4 = m + 3 := h.2.2.2.2.2.2.2.1
theorem zMo.k3 {M : zM} {m : Nat} (h : zMo M m) : z_k M (m + 3) = 100 := h.2.2.2.2.2.2.2.2.1
theorem zMo.n3 {M : zM} {m : Nat} (h : zMo M m) : z_n M (m + 3) = 12000 := h.2.2.2.2.2.2.2.2.2.1
theorem zMo.p4 {M : zM} {m : Nat} (h : zMo M m) : z_p M m 8 = m + 4 := h.2.2.2.2.2.2.2.2.2.2.1
theorem zMo.k4 {M : zM} {m : Nat} (h : zMo M m) : z_k M (m + 4) = 100 := h.2.2.2.2.2.2.2.2.2.2.2.1
theorem zMo.n4 {M : zM} {m : Nat} (h : zMo M m) : z_n M (m + 4) = 256 := h.2.2.2.2.2.2.2.2.2.2.2.2.1
theorem zMo.p5 {M : zM} {m : Nat} (h : zMo M m) : z_p M m 9 = m + 5 := h.2.2.2.2.2.2.2.2.2.2.2.2.2.1
theorem zMo.k5 {M : zM} {m : Nat} (h : zMo M m) : z_k M (m + 5) = 100 := h.2.2.2.2.2.2.2.2.2.2.2.2.2.2.1
theorem zMo.n5 {M : zM} {m : Nat} (h : zMo M m) : z_n M (m + 5) = 192 := h.2.2.2.2.2.2.2.2.2.2.2.2.2.2.2.1
theorem zMo.p6 {M : zM} {m : Nat} (h : zMo M m) : z_p M m 10 = m + 6 := h.2.2.2.2.2.2.2.2.2.2.2.2.2.2.2.2.1
theorem zMo.k6 {M : zM} {m : Nat} (h : zMo M m) : z_k M (m + 6) = 100 := h.2.2.2.2.2.2.2.2.2.2.2.2.2.2.2.2.2.1
theorem zMo.n6 {M : zM} {m : Nat} (h : zMo M m) : z_n M (m + 6) = 3 := h.2.2.2.2.2.2.2.2.2.2.2.2.2.2.2.2.2.2.1
theorem zMo.p7 {M : zM} {m : Nat} (h : zMo M m) : z_p M m 11 = m + 7 := h.2.2.2.2.2.2.2.2.2.2.2.2.2.2.2.2.2.2.2.1
theorem zMo.k7 {M : zM} {m : Nat} (h : zMo M m) : z_k M (m + 7) = 103 := h.2.2.2.2.2.2.2.2.2.2.2.2.2.2.2.2.2.2.2.2.1
theorem zMo.n7 {M : zM} {m : Nat} (h : zMo M m) : z_n M (m + 7) = 3 := h.2.2.2.2.2.2.2.2.2.2.2.2.2.2.2.2.2.2.2.2.2.1
theorem zMo.p8 {M : zM} {m : Nat} (h : zMo M m) : z_p M m 12 = m + 8 := h.2.2.2.2.2.2.2.2.2.2.2.2.2.2.2.2.2.2.2.2.2.2.1
theorem zMo.k8 {M : zM} {m : Nat} (h : zMo M m) : z_k M (m + 8) = 100 := h.2.2.2.2.2.2.2.2.2.2.2.2.2.2.2.2.2.2.2.2.2.2.2.1
theorem zMo.n8 {M : zM} {m : Nat} (h : zMo M m) : z_n M (m + 8) = 256 := h.2.2.2.2.2.2.2.2.2.2.2.2.2.2.2.2.2.2.2.2.2.2.2.2.1
theorem zMo.p9 {M : zM} {m : Nat} (h : zMo M m) : z_p M m 14 = m + 9 := h.2.2.2.2.2.2.2.2.2.2.2.2.2.2.2.2.2.2.2.2.2.2.2.2.2.1
theorem zMo.k9 {M : zM} {m : Nat} (h : zMo M m) : z_k M (m + 9) = 100 := h.2.2.2.2.2.2.2.2.2.2.2.2.2.2.2.2.2.2.2.2.2.2.2.2.2.2.1
theorem zMo.n9 {M : zM} {m : Nat} (h : zMo M m) : z_n M (m + 9) = 2048 := h.2.2.2.2.2.2.2.2.2.2.2.2.2.2.2.2.2.2.2.2.2.2.2.2.2.2.2.1
theorem zMo.p10 {M : zM} {m : Nat} (h : zMo M m) : z_p M m 15 = m + 10 := h.2.2.2.2.2.2.2.2.2.2.2.2.2.2.2.2.2.2.2.2.2.2.2.2.2.2.2.2.1
theorem zMo.k10 {M : zM} {m : Nat} (h : zMo M m) : z_k M (m + 10) = 100 := h.2.2.2.2.2.2.2.2.2.2.2.2.2.2.2.2.2.2.2.2.2.2.2.2.2.2.2.2.2.1
theorem zMo.n10 {M : zM} {m : Nat} (h : zMo M m) : z_n M (m + 10) = 192 := h.2.2.2.2.2.2.2.2.2.2.2.2.2.2.2.2.2.2.2.2.2.2.2.2.2.2.2.2.2.2.1
theorem zMo.p11 {M : zM} {m : Nat} (h : zMo M m) : z_p M m 16 = m + 11 := h.2.2.2.2.2.2.2.2.2.2.2.2.2.2.2.2.2.2.2.2.2.2.2.2.2.2.2.2.2.2.2.1
theorem zMo.k11 {M : zM} {m : Nat} (h : zMo M m) : z_k M (m + 11) = 100 := h.2.2.2.2.2.2.2.2.2.2.2.2.2.2.2.2.2.2.2.2.2.2.2.2.2.2.2.2.2.2.2.2.1
theorem zMo.n11 {M : zM} {m : Nat} (h : zMo M m) : z_n M (m + 11) = 3 := h.2.2.2.2.2.2.2.2.2.2.2.2.2.2.2.2.2.2.2.2.2.2.2.2.2.2.2.2.2.2.2.2.2.1
theorem zMo.p12 {M : zM} {m : Nat} (h : zMo M m) : z_p M m 17 = m + 12 := h.2.2.2.2.2.2.2.2.2.2.2.2.2.2.2.2.2.2.2.2.2.2.2.2.2.2.2.2.2.2.2.2.2.2.1
theorem zMo.k12 {M : zM} {m : Nat} (h : zMo M m) : z_k M (m + 12) = 100 := h.2.2.2.2.2.2.2.2.2.2.2.2.2.2.2.2.2.2.2.2.2.2.2.2.2.2.2.2.2.2.2.2.2.2.2.1
theorem zMo.n12 {M : zM} {m : Nat} (h : zMo M m) : z_n M (m + 12) = 1536 := h.2.2.2.2.2.2.2.2.2.2.2.2.2.2.2.2.2.2.2.2.2.2.2.2.2.2.2.2.2.2.2.2.2.2.2.2.1
theorem zMo.p13 {M : zM} {m : Nat} (h : zMo M m) : z_p M m 18 = m + 13 := h.2.2.2.2.2.2.2.2.2.2.2.2.2.2.2.2.2.2.2.2.2.2.2.2.2.2.2.2.2.2.2.2.2.2.2.2.2.1
theorem zMo.k13 {M : zM} {m : Nat} (h : zMo M m) : z_k M (m + 13) = 100 := h.2.2.2.2.2.2.2.2.2.2.2.2.2.2.2.2.2.2.2.2.2.2.2.2.2.2.2.2.2.2.2.2.2.2.2.2.2.2.1
theorem zMo.n13 {M : zM} {m : Nat} (h : zMo M m) : z_n M (m + 13) = 1536 := h.2.2.2.2.2.2.2.2.2.2.2.2.2.2.2.2.2.2.2.2.2.2.2.2.2.2.2.2.2.2.2.2.2.2.2.2.2.2.2.1
theorem zMo.p14 {M : zM} {m : Nat} (h : zMo M m) : z_p M m 19 = m + 14 := h.2.2.2.2.2.2.2.2.2.2.2.2.2.2.2.2.2.2.2.2.2.2.2.2.2.2.2.2.2.2.2.2.2.2.2.2.2.2.2.2.1
theorem zMo.k14 {M : zM} {m : Nat} (h : zMo M m) : z_k M (m + 14) = 100 := h.2.2.2.2.2.2.2.2.2.2.2.2.2.2.2.2.2.2.2.2.2.2.2.2.2.2.2.2.2.2.2.2.2.2.2.2.2.2.2.2.2.1
theorem zMo.n14 {M : zM} {m : Nat} (h : zMo M m) : z_n M (m + 14) = 1536 := h.2.2.2.2.2.2.2.2.2.2.2.2.2.2.2.2.2.2.2.2.2.2.2.2.2.2.2.2.2.2.2.2.2.2.2.2.2.2.2.2.2.2.1
theorem zMo.p15 {M : zM} {m : Nat} (h : zMo M m) : z_p M m 20 = m + 15 := h.2.2.2.2.2.2.2.2.2.2.2.2.2.2.2.2.2.2.2.2.2.2.2.2.2.2.2.2.2.2.2.2.2.2.2.2.2.2.2.2.2.2.2.1
theorem zMo.k15 {M : zM} {m : Nat} (h : zMo M m) : z_k M (m + 15) = 103 := h.2.2.2.2.2.2.2.2.2.2.2.2.2.2.2.2.2.2.2.2.2.2.2.2.2.2.2.2.2.2.2.2.2.2.2.2.2.2.2.2.2.2.2.2.1
theorem zMo.n15 {M : zM} {m : Nat} (h : zMo M m) : z_n M (m + 15) = 3 := h.2.2.2.2.2.2.2.2.2.2.2.2.2.2.2.2.2.2.2.2.2.2.2.2.2.2.2.2.2.2.2.2.2.2.2.2.2.2.2.2.2.2.2.2.2.1
theorem zMo.p16 {M : zM} {m : Nat} (h : zMo M m) : z_p M m 21 = m + 16 := h.2.2.2.2.2.2.2.2.2.2.2.2.2.2.2.2.2.2.2.2.2.2.2.2.2.2.2.2.2.2.2.2.2.2.2.2.2.2.2.2.2.2.2.2.2.2.1
theorem zMo.k16 {M : zM} {m : Nat} (h : zMo M m) : z_k M (m + 16) = 100 := h.2.2.2.2.2.2.2.2.2.2.2.2.2.2.2.2.2.2.2.2.2.2.2.2.2.2.2.2.2.2.2.2.2.2.2.2.2.2.2.2.2.2.2.2.2.2.2.1
theorem zMo.n16 {M : zM} {m : Nat} (h : zMo M m) : z_n M (m + 16) = 256 := h.2.2.2.2.2.2.2.2.2.2.2.2.2.2.2.2.2.2.2.2.2.2.2.2.2.2.2.2.2.2.2.2.2.2.2.2.2.2.2.2.2.2.2.2.2.2.2.2.1
theorem zMo.p17 {M : zM} {m : Nat} (h : zMo M m) : z_p M m 23 = m + 17 := h.2.2.2.2.2.2.2.2.2.2.2.2.2.2.2.2.2.2.2.2.2.2.2.2.2.2.2.2.2.2.2.2.2.2.2.2.2.2.2.2.2.2.2.2.2.2.2.2.2.1
theorem zMo.k17 {M : zM} {m : Nat} (h : zMo M m) : z_k M (m + 17) = 100 := h.2.2.2.2.2.2.2.2.2.2.2.2.2.2.2.2.2.2.2.2.2.2.2.2.2.2.2.2.2.2.2.2.2.2.2.2.2.2.2.2.2.2.2.2.2.2.2.2.2.2.1
theorem zMo.n17 {M : zM} {m : Nat} (h : zMo M m) : z_n M (m + 17) = 256 := h.2.2.2.2.2.2.2.2.2.2.2.2.2.2.2.2.2.2.2.2.2.2.2.2.2.2.2.2.2.2.2.2.2.2.2.2.2.2.2.2.2.2.2.2.2.2.2.2.2.2.2.1
theorem zMo.p18 {M : zM} {m : Nat} (h : zMo M m) : z_p M m 24 = m + 18 := h.2.2.2.2.2.2.2.2.2.2.2.2.2.2.2.2.2.2.2.2.2.2.2.2.2.2.2.2.2.2.2.2.2.2.2.2.2.2.2.2.2.2.2.2.2.2.2.2.2.2.2.2.1
theorem zMo.k18 {M : zM} {m : Nat} (h : zMo M m) : z_k M (m + 18) = 100 := h.2.2.2.2.2.2.2.2.2.2.2.2.2.2.2.2.2.2.2.2.2.2.2.2.2.2.2.2.2.2.2.2.2.2.2.2.2.2.2.2.2.2.2.2.2.2.2.2.2.2.2.2.2.1
theorem zMo.n18 {M : zM} {m : Nat} (h : zMo M m) : z_n M (m + 18) = 256 := h.2.2.2.2.2.2.2.2.2.2.2.2.2.2.2.2.2.2.2.2.2.2.2.2.2.2.2.2.2.2.2.2.2.2.2.2.2.2.2.2.2.2.2.2.2.2.2.2.2.2.2.2.2.2.1
theorem zMo.p19 {M : zM} {m : Nat} (h : zMo M m) : z_p M m 25 = m + 19 := h.2.2.2.2.2.2.2.2.2.2.2.2.2.2.2.2.2.2.2.2.2.2.2.2.2.2.2.2.2.2.2.2.2.2.2.2.2.2.2.2.2.2.2.2.2.2.2.2.2.2.2.2.2.2.2.1
theorem zMo.k19 {M : zM} {m : Nat} (h : zMo M m) : z_k M (m + 19) = 100 := h.2.2.2.2.2.2.2.2.2.2.2.2.2.2.2.2.2.2.2.2.2.2.2.2.2.2.2.2.2.2.2.2.2.2.2.2.2.2.2.2.2.2.2.2.2.2.2.2.2.2.2.2.2.2.2.2.1
theorem zMo.n19 {M : zM} {m : Nat} (h : zMo M m) : z_n M (m + 19) = 64 := h.2.2.2.2.2.2.2.2.2.2.2.2.2.2.2.2.2.2.2.2.2.2.2.2.2.2.2.2.2.2.2.2.2.2.2.2.2.2.2.2.2.2.2.2.2.2.2.2.2.2.2.2.2.2.2.2.2.1
theorem zMo.p20 {M : zM} {m : Nat} (h : zMo M m) : z_p M m 26 = m + 20 := h.2.2.2.2.2.2.2.2.2.2.2.2.2.2.2.2.2.2.2.2.2.2.2.2.2.2.2.2.2.2.2.2.2.2.2.2.2.2.2.2.2.2.2.2.2.2.2.2.2.2.2.2.2.2.2.2.2.2.1
theorem zMo.k20 {M : zM} {m : Nat} (h : zMo M m) : z_k M (m + 20) = 100 := h.2.2.2.2.2.2.2.2.2.2.2.2.2.2.2.2.2.2.2.2.2.2.2.2.2.2.2.2.2.2.2.2.2.2.2.2.2.2.2.2.2.2.2.2.2.2.2.2.2.2.2.2.2.2.2.2.2.2.2.1
theorem zMo.n20 {M : zM} {m : Nat} (h : zMo M m) : z_n M (m + 20) = 64 := h.2.2.2.2.2.2.2.2.2.2.2.2.2.2.2.2.2.2.2.2.2.2.2.2.2.2.2.2.2.2.2.2.2.2.2.2.2.2.2.2.2.2.2.2.2.2.2.2.2.2.2.2.2.2.2.2.2.2.2.2.1
theorem zMo.p21 {M : zM} {m : Nat} (h : zMo M m) : z_p M m 27 = m + 21 := h.2.2.2.2.2.2.2.2.2.2.2.2.2.2.2.2.2.2.2.2.2.2.2.2.2.2.2.2.2.2.2.2.2.2.2.2.2.2.2.2.2.2.2.2.2.2.2.2.2.2.2.2.2.2.2.2.2.2.2.2.2.1
theorem zMo.k21 {M : zM} {m : Nat} (h : zMo M m) : z_k M (m + 21) = 100 := h.2.2.2.2.2.2.2.2.2.2.2.2.2.2.2.2.2.2.2.2.2.2.2.2.2.2.2.2.2.2.2.2.2.2.2.2.2.2.2.2.2.2.2.2.2.2.2.2.2.2.2.2.2.2.2.2.2.2.2.2.2.2.1
theorem zMo.n21 {M : zM} {m : Nat} (h : zMo M m) : z_n M (m + 21) = 64 := h.2.2.2.2.2.2.2.2.2.2.2.2.2.2.2.2.2.2.2.2.2.2.2.2.2.2.2.2.2.2.2.2.2.2.2.2.2.2.2.2.2.2.2.2.2.2.2.2.2.2.2.2.2.2.2.2.2.2.2.2.2.2.2.1
theorem zMo.p22 {M : zM} {m : Nat} (h : zMo M m) : z_p M m 40 = m + 22 := h.2.2.2.2.2.2.2.2.2.2.2.2.2.2.2.2.2.2.2.2.2.2.2.2.2.2.2.2.2.2.2.2.2.2.2.2.2.2.2.2.2.2.2.2.2.2.2.2.2.2.2.2.2.2.2.2.2.2.2.2.2.2.2.2.1
theorem zMo.k22 {M : zM} {m : Nat} (h : zMo M m) : z_k M (m + 22) = 100 := h.2.2.2.2.2.2.2.2.2.2.2.2.2.2.2.2.2.2.2.2.2.2.2.2.2.2.2.2.2.2.2.2.2.2.2.2.2.2.2.2.2.2.2.2.2.2.2.2.2.2.2.2.2.2.2.2.2.2.2.2.2.2.2.2.2.1
theorem zMo.n22 {M : zM} {m : Nat} (h : zMo M m) : z_n M (m + 22) = 32768 := h.2.2.2.2.2.2.2.2.2.2.2.2.2.2.2.2.2.2.2.2.2.2.2.2.2.2.2.2.2.2.2.2.2.2.2.2.2.2.2.2.2.2.2.2.2.2.2.2.2.2.2.2.2.2.2.2.2.2.2.2.2.2.2.2.2.2.1
theorem zMo.p23 {M : zM} {m : Nat} (h : zMo M m) : z_p M m 41 = m + 23 := h.2.2.2.2.2.2.2.2.2.2.2.2.2.2.2.2.2.2.2.2.2.2.2.2.2.2.2.2.2.2.2.2.2.2.2.2.2.2.2.2.2.2.2.2.2.2.2.2.2.2.2.2.2.2.2.2.2.2.2.2.2.2.2.2.2.2.2.1
theorem zMo.k23 {M : zM} {m : Nat} (h : zMo M m) : z_k M (m + 23) = 100 := h.2.2.2.2.2.2.2.2.2.2.2.2.2.2.2.2.2.2.2.2.2.2.2.2.2.2.2.2.2.2.2.2.2.2.2.2.2.2.2.2.2.2.2.2.2.2.2.2.2.2.2.2.2.2.2.2.2.2.2.2.2.2.2.2.2.2.2.2.1
theorem zMo.n23 {M : zM} {m : Nat} (h : zMo M m) : z_n M (m + 23) = 131072 := h.2.2.2.2.2.2.2.2.2.2.2.2.2.2.2.2.2.2.2.2.2.2.2.2.2.2.2.2.2.2.2.2.2.2.2.2.2.2.2.2.2.2.2.2.2.2.2.2.2.2.2.2.2.2.2.2.2.2.2.2.2.2.2.2.2.2.2.2.2.1
theorem zMo.p24 {M : zM} {m : Nat} (h : zMo M m) : z_p M m 49 = m + 24 := h.2.2.2.2.2.2.2.2.2.2.2.2.2.2.2.2.2.2.2.2.2.2.2.2.2.2.2.2.2.2.2.2.2.2.2.2.2.2.2.2.2.2.2.2.2.2.2.2.2.2.2.2.2.2.2.2.2.2.2.2.2.2.2.2.2.2.2.2.2.2.1
theorem zMo.k24 {M : zM} {m : Nat} (h : zMo M m) : z_k M (m + 24) = 103 := h.2.2.2.2.2.2.2.2.2.2.2.2.2.2.2.2.2.2.2.2.2.2.2.2.2.2.2.2.2.2.2.2.2.2.2.2.2.2.2.2.2.2.2.2.2.2.2.2.2.2.2.2.2.2.2.2.2.2.2.2.2.2.2.2.2.2.2.2.2.2.2.1
theorem zMo.n24 {M : zM} {m : Nat} (h : zMo M m) : z_n M (m + 24) = 4 := h.2.2.2.2.2.2.2.2.2.2.2.2.2.2.2.2.2.2.2.2.2.2.2.2.2.2.2.2.2.2.2.2.2.2.2.2.2.2.2.2.2.2.2.2.2.2.2.2.2.2.2.2.2.2.2.2.2.2.2.2.2.2.2.2.2.2.2.2.2.2.2.2
theorem zMo.fr {M M' : zM} {m : Nat} (h : zMo M m) (hk : z_k M' = z_k M) (hn : z_n M' = z_n M) (hp : z_p M' = z_p M) : zMo M' m := by
  simp only [zMo, hk, hn, hp]
  exact h
/-- a table: its order, symbols, bits, bases, at rw in three rows -/
def zTg (o : Nat) (T B E : Nat → Nat) (rw : Nat) (A1 A2 A3 : Nat → Int32) : Prop := ∀ k, k < 2 ^ o → A1 (rw + k) = nI (T k) ∧ A2 (rw + k) = nI (B k) ∧ A3 (rw + k) = nI (E k)
/-- table t of the reference -/
def zMT (M : zM) (m t o : Nat) (T B E : Nat → Nat) : Prop := z_i M (m + 11) t = nI o ∧ zTg o T B E (512 * t) (z_i M (m + 12)) (z_i M (m + 13)) (z_i M (m + 14))
def zMP (M : zM) (m t : Nat) (u : Nat → Nat) : Prop := ∀ s, s < 64 → z_i M (m + 10) (64 * t + s) = nI (u s) - 1
/-- the other tables stay -/
def zKT (m t : Nat) (M M' : zM) : Prop := ∀ t', t' ≠ t → t' < 3 → z_i M' (m + 11) t' = z_i M (m + 11) t' ∧ (∀ k, k < 64 → z_i M' (m + 10) (64 * t' + k) = z_i M (m + 10) (64 * t' + k)) ∧ ∀ k, k < 512 → z_i M' (m + 12) (512 * t' + k) = z_i M (m + 12) (512 * t' + k) ∧ z_i M' (m + 13) (512 * t' + k) = z_i M (m + 13) (512 * t' + k) ∧ z_i M' (m + 14) (512 * t' + k) = z_i M (m + 14) (512 * t' + k)
def zTS (m q : Nat) : Prop := (m + 10 ≤ q ∧ q ≤ m + 14) ∨ q = m + 18
theorem zKT.rf {m t : Nat} {M : zM} : zKT m t M M := fun _ _ _ => ⟨rfl, fun _ _ => rfl, fun _ _ => ⟨rfl, rfl, rfl⟩⟩
theorem zKT.tr {m t : Nat} {M M1 M2 : zM} (h : zKT m t M M1) (g : zKT m t M1 M2) : zKT m t M M2 := fun t' h1 h2 => by
  obtain ⟨a1, a2, a3⟩ := h t' h1 h2
  obtain ⟨b1, b2, b3⟩ := g t' h1 h2
  exact ⟨b1.trans a1, fun k hk => (b2 k hk).trans (a2 k hk), fun k hk => ⟨(b3 k hk).1.trans (a3 k hk).1, (b3 k hk).2.1.trans (a3 k hk).2.1, (b3 k hk).2.2.trans (a3 k hk).2.2⟩⟩
theorem zMT.kt {m t t' o : Nat} {T B E : Nat → Nat} {M M' : zM} (h : zMT M m t' o T B E) (g : zKT m t M M') (h1 : t' ≠ t) (h2 : t' < 3) (ho : o ≤ 9) : zMT M' m t' o T B E := by
  obtain ⟨a1, a2, a3⟩ := g t' h1 h2
  have hp := pw_9 ho
  refine ⟨a1.trans h.1, fun k hk => ?_⟩
  obtain ⟨b1, b2, b3⟩ := a3 k (by omega)
  rw [b1, b2, b3]
  exact h.2 k hk
theorem zMP.kt {m t t' : Nat} {u : Nat → Nat} {M M' : zM} (h : zMP M m t' u) (g : zKT m t M M') (h1 : t' ≠ t) (h2 : t' < 3) : zMP M' m t' u := fun s hs => ((g t' h1 h2).2.1 s hs).trans (h s hs)
theorem c_layTable {O : zO} {M : zM} {m t o last : Nat} {u : Nat → Nat} (hm : zMo M m) (ht : t < 3) (hu : zSh o last u) (ho : z_i M (m + 11) t = nI o) (hp : zMP M m t u) : ∃ M', zEv (fun n => F_Mo_layTable O n m (nI t) M) ((), M') ∧ zSt (zTS m) M M' ∧ z_p M' = z_p M ∧ zMT M' m t o (tS o u) (bS o u) (eS o u) ∧ zMP M' m t u ∧ zKT m t M M' := by
  have hpw := pw_9 hu.2.1
  have hl := hu.2.2.1
  have hly : zLy M m (m + 10) (64 * t) 64 (m + 12) (m + 13) (m + 14) (512 * t) o u := by
    refine ⟨hm.k, hm.p18, hm.k18, hm.n18, hm.k10, by rw [hm.n10]; omega, by rw [hm.n10]; omega, hm.k12, by rw [hm.n12]; omega, by rw [hm.n12]; omega, hm.k13, by rw [hm.n12, hm.n13], hm.k14, by rw [hm.n12, hm.n14], hp, by omega, by omega, by omega, by omega, by omega, by omega, by omega⟩
  obtain ⟨N, T, B, E, l1, l2, l3, l4, l5⟩ := c_Mo_lay (O := O) hly hu hl
  refine ⟨w_4 M (m + 18) (m + 12) (m + 13) (m + 14) N T B E, ?_, ?_, rfl, ⟨?_, ?_⟩, ?_, ?_⟩
  · unfold F_Mo_layTable f_Mo_layTable_0
    simp (disch := omega) only [zlet, w_i_k, w_i_n, w_i_i, w_i_j, w_i_p, w_i_s, w_j_k, w_j_n, w_j_i, w_j_j, w_j_p, w_j_s, w_p_k, w_p_n, w_p_i, w_p_j, w_p_p, w_p_s, w_c_k, w_c_n, w_c_i, w_c_j, w_c_p, w_c_s, w_u_k, w_u_n, w_u_i, w_u_j, w_u_p, w_u_s, q_nf, ↓reduceIte, if_true, if_false, eq_self, and_true, true_and, and_false, false_and, Option.bind_some, ne_eq, not_false_eq_true, not_true_eq_false, nI_add, pk_mul, pk_sub, nI_ac, q_tlt, q_flt, q_tle, q_fle, q_teq, q_feq, q_tin, nI_cl, q_m1, q_m2, q_m3, q_m4, q_m5, q_m6, q_m7, q_l1, q_l2, q_l3, q_l4, q_l5, q_l6, lN_add, lN_mul, lN_sub, lN_i, nI_l, q_rem, q_rem2, q_div, q_shl, q_shr, q_i0, q_i1, q_i2, q_i3, q_i4, q_i5, q_i6, q_i7, q_i8, q_i9, q_i10, q_i11, q_i12, q_i14, q_i15, q_i16, q_i17, q_i18, q_i19, q_i20, q_i22, q_i24, q_i26, q_i28, q_i30, q_i31, q_i32, q_i35, q_i36, q_i38, q_i40, q_i42, q_i43, q_i48, q_i51, q_i52, q_i56, q_i63, q_i64, q_i67, q_i80, q_i95, q_i99, q_i126, q_i127, q_i128, q_i255, q_i256, q_i512, q_i1024, q_i12000, q_i32512, q_i32768, q_i131072, q_j0, q_j1, q_j2, q_j3, q_j4, q_j8, q_j256, Nat.one_mul, Nat.zero_add, Nat.add_zero, Nat.sub_zero, Nat.mul_one, q_ofN, hm.k, hm.p10, hm.k10, hm.n10, hm.p11, hm.k11, hm.n11, hm.p12, hm.k12, hm.n12, hm.p13, hm.k13, hm.n13, hm.p14, hm.k14, hm.n14, ho]
    exact zEv.bind l5 (zEv.some _)
  · unfold w_4
    exact (((zSt.rf.wu (Or.inr rfl)).wu (Or.inl ⟨by omega, by omega⟩)).wu (Or.inl ⟨by omega, by omega⟩)).wu (Or.inl ⟨by omega, by omega⟩)
  · simp (disch := omega) only [zlet, w_i_k, w_i_n, w_i_i, w_i_j, w_i_p, w_i_s, w_j_k, w_j_n, w_j_i, w_j_j, w_j_p, w_j_s, w_p_k, w_p_n, w_p_i, w_p_j, w_p_p, w_p_s, w_c_k, w_c_n, w_c_i, w_c_j, w_c_p, w_c_s, w_u_k, w_u_n, w_u_i, w_u_j, w_u_p, w_u_s, q_nf, ↓reduceIte, if_true, if_false, eq_self, and_true, true_and, and_false, false_and, Option.bind_some, ne_eq, not_false_eq_true, not_true_eq_false, w_4_i]
    exact ho
  · intro k hk
    simp (disch := omega) only [zlet, w_i_k, w_i_n, w_i_i, w_i_j, w_i_p, w_i_s, w_j_k, w_j_n, w_j_i, w_j_j, w_j_p, w_j_s, w_p_k, w_p_n, w_p_i, w_p_j, w_p_p, w_p_s, w_c_k, w_c_n, w_c_i, w_c_j, w_c_p, w_c_s, w_u_k, w_u_n, w_u_i, w_u_j, w_u_p, w_u_s, q_nf, ↓reduceIte, if_true, if_false, eq_self, and_true, true_and, and_false, false_and, Option.bind_some, ne_eq, not_false_eq_true, not_true_eq_false, w_4_i]
    exact l1 k hk
  · intro s hs
    simp (disch := omega) only [zlet, w_i_k, w_i_n, w_i_i, w_i_j, w_i_p, w_i_s, w_j_k, w_j_n, w_j_i, w_j_j, w_j_p, w_j_s, w_p_k, w_p_n, w_p_i, w_p_j, w_p_p, w_p_s, w_c_k, w_c_n, w_c_i, w_c_j, w_c_p, w_c_s, w_u_k, w_u_n, w_u_i, w_u_j, w_u_p, w_u_s, q_nf, ↓reduceIte, if_true, if_false, eq_self, and_true, true_and, and_false, false_and, Option.bind_some, ne_eq, not_false_eq_true, not_true_eq_false, w_4_i]
    exact hp s hs
  · intro t' h1 h2
    refine ⟨by simp (disch := omega) only [zlet, w_i_k, w_i_n, w_i_i, w_i_j, w_i_p, w_i_s, w_j_k, w_j_n, w_j_i, w_j_j, w_j_p, w_j_s, w_p_k, w_p_n, w_p_i, w_p_j, w_p_p, w_p_s, w_c_k, w_c_n, w_c_i, w_c_j, w_c_p, w_c_s, w_u_k, w_u_n, w_u_i, w_u_j, w_u_p, w_u_s, q_nf, ↓reduceIte, if_true, if_false, eq_self, and_true, true_and, and_false, false_and, Option.bind_some, ne_eq, not_false_eq_true, not_true_eq_false, w_4_i], fun k hk => by simp (disch := omega) only [zlet, w_i_k, w_i_n, w_i_i, w_i_j, w_i_p, w_i_s, w_j_k, w_j_n, w_j_i, w_j_j, w_j_p, w_j_s, w_p_k, w_p_n, w_p_i, w_p_j, w_p_p, w_p_s, w_c_k, w_c_n, w_c_i, w_c_j, w_c_p, w_c_s, w_u_k, w_u_n, w_u_i, w_u_j, w_u_p, w_u_s, q_nf, ↓reduceIte, if_true, if_false, eq_self, and_true, true_and, and_false, false_and, Option.bind_some, ne_eq, not_false_eq_true, not_true_eq_false, w_4_i], fun k hk => ?_⟩
    simp (disch := omega) only [zlet, w_i_k, w_i_n, w_i_i, w_i_j, w_i_p, w_i_s, w_j_k, w_j_n, w_j_i, w_j_j, w_j_p, w_j_s, w_p_k, w_p_n, w_p_i, w_p_j, w_p_p, w_p_s, w_c_k, w_c_n, w_c_i, w_c_j, w_c_p, w_c_s, w_u_k, w_u_n, w_u_i, w_u_j, w_u_p, w_u_s, q_nf, ↓reduceIte, if_true, if_false, eq_self, and_true, true_and, and_false, false_and, Option.bind_some, ne_eq, not_false_eq_true, not_true_eq_false, w_4_i]
    exact ⟨l2 _ (by omega), l3 _ (by omega), l4 _ (by omega)⟩
theorem l_keepDraft {O : zO} {M : zM} {m t o : Nat} {u : Nat → Nat} (hm : zMo M m) (ht : t < 3) (ho : z_i M m 22 = nI o) (hd : ∀ s, s < 64 → z_i M (m + 16) s = nI (u s) - 1) : ∀ d k, k + d = 64 → ∀ g, (∀ s, s < k → g (64 * t + s) = nI (u s) - 1) → (∀ j, j < 64 * t ∨ 64 * t + 64 ≤ j → g j = z_i M (m + 10) j) → ∃ g', (∀ s, s < 64 → g' (64 * t + s) = nI (u s) - 1) ∧ (∀ j, j < 64 * t ∨ 64 * t + 64 ≤ j → g' j = z_i M (m + 10) j) ∧ ∀ α, zEv (fun n => (F_Mo_layTable O n m (nI t) (w_i (w_u M (m + 10) g') (m + 11) t (nI o))).bind fun q8 => some ((), q8.2)) α → zEv (fun n => f_Mo_keepDraft_2 O n m (nI t) (nI k) (w_u M (m + 10) g)) α := by
  intro d
  induction d with
  | zero =>
    intro k hk g hg hg2
    refine ⟨g, fun s hs => hg s (by omega), hg2, fun α hα => zEv.succ (hα.to fun n => ?_)⟩
    rw [f_Mo_keepDraft_2]
    simp (disch := omega) only [zlet, w_i_k, w_i_n, w_i_i, w_i_j, w_i_p, w_i_s, w_j_k, w_j_n, w_j_i, w_j_j, w_j_p, w_j_s, w_p_k, w_p_n, w_p_i, w_p_j, w_p_p, w_p_s, w_c_k, w_c_n, w_c_i, w_c_j, w_c_p, w_c_s, w_u_k, w_u_n, w_u_i, w_u_j, w_u_p, w_u_s, q_nf, ↓reduceIte, if_true, if_false, eq_self, and_true, true_and, and_false, false_and, Option.bind_some, ne_eq, not_false_eq_true, not_true_eq_false, nI_add, pk_mul, pk_sub, nI_ac, q_tlt, q_flt, q_tle, q_fle, q_teq, q_feq, q_tin, nI_cl, q_m1, q_m2, q_m3, q_m4, q_m5, q_m6, q_m7, q_l1, q_l2, q_l3, q_l4, q_l5, q_l6, lN_add, lN_mul, lN_sub, lN_i, nI_l, q_rem, q_rem2, q_div, q_shl, q_shr, q_i0, q_i1, q_i2, q_i3, q_i4, q_i5, q_i6, q_i7, q_i8, q_i9, q_i10, q_i11, q_i12, q_i14, q_i15, q_i16, q_i17, q_i18, q_i19, q_i20, q_i22, q_i24, q_i26, q_i28, q_i30, q_i31, q_i32, q_i35, q_i36, q_i38, q_i40, q_i42, q_i43, q_i48, q_i51, q_i52, q_i56, q_i63, q_i64, q_i67, q_i80, q_i95, q_i99, q_i126, q_i127, q_i128, q_i255, q_i256, q_i512, q_i1024, q_i12000, q_i32512, q_i32768, q_i131072, q_j0, q_j1, q_j2, q_j3, q_j4, q_j8, q_j256, Nat.one_mul, Nat.zero_add, Nat.add_zero, Nat.sub_zero, Nat.mul_one, q_ofN, hm.k, hm.p10, hm.k10, hm.n10, hm.p11, hm.k11, hm.n11, hm.p16, hm.k16, hm.n16, ho]
  | succ d ih =>
    intro k hk g hg hg2
    obtain ⟨g', g1, g2, g3⟩ := ih (k + 1) (by omega) (upd g (64 * t + k) (nI (u k) - 1)) (fun s hs => by
      rw [upd_at]
      by_cases c : s = k
      · rw [if_pos (by omega), c]
      · rw [if_neg (by omega)]; exact hg s (by omega)) (fun j hj => by rw [upd_at, if_neg (by omega)]; exact hg2 j hj)
    refine ⟨g', g1, g2, fun α hα => zEv.succ ((g3 α hα).to fun n => ?_)⟩
    have hdk := hd k (by omega)
    rw [f_Mo_keepDraft_2]
    simp (disch := omega) only [zlet, w_i_k, w_i_n, w_i_i, w_i_j, w_i_p, w_i_s, w_j_k, w_j_n, w_j_i, w_j_j, w_j_p, w_j_s, w_p_k, w_p_n, w_p_i, w_p_j, w_p_p, w_p_s, w_c_k, w_c_n, w_c_i, w_c_j, w_c_p, w_c_s, w_u_k, w_u_n, w_u_i, w_u_j, w_u_p, w_u_s, q_nf, ↓reduceIte, if_true, if_false, eq_self, and_true, true_and, and_false, false_and, Option.bind_some, ne_eq, not_false_eq_true, not_true_eq_false, nI_add, pk_mul, pk_sub, nI_ac, q_tlt, q_flt, q_tle, q_fle, q_teq, q_feq, q_tin, nI_cl, q_m1, q_m2, q_m3, q_m4, q_m5, q_m6, q_m7, q_l1, q_l2, q_l3, q_l4, q_l5, q_l6, lN_add, lN_mul, lN_sub, lN_i, nI_l, q_rem, q_rem2, q_div, q_shl, q_shr, q_i0, q_i1, q_i2, q_i3, q_i4, q_i5, q_i6, q_i7, q_i8, q_i9, q_i10, q_i11, q_i12, q_i14, q_i15, q_i16, q_i17, q_i18, q_i19, q_i20, q_i22, q_i24, q_i26, q_i28, q_i30, q_i31, q_i32, q_i35, q_i36, q_i38, q_i40, q_i42, q_i43, q_i48, q_i51, q_i52, q_i56, q_i63, q_i64, q_i67, q_i80, q_i95, q_i99, q_i126, q_i127, q_i128, q_i255, q_i256, q_i512, q_i1024, q_i12000, q_i32512, q_i32768, q_i131072, q_j0, q_j1, q_j2, q_j3, q_j4, q_j8, q_j256, Nat.one_mul, Nat.zero_add, Nat.add_zero, Nat.sub_zero, Nat.mul_one, q_ofN, hm.k, hm.p10, hm.k10, hm.n10, hm.p11, hm.k11, hm.n11, hm.p16, hm.k16, hm.n16, hdk, w_u_w]
theorem c_keepDraft {O : zO} {M : zM} {m t o last : Nat} {u : Nat → Nat} (hm : zMo M m) (ht : t < 3) (hu : zSh o last u) (ho : z_i M m 22 = nI o) (hd : ∀ s, s < 64 → z_i M (m + 16) s = nI (u s) - 1) : ∃ M', zEv (fun n => F_Mo_keepDraft O n m (nI t) M) ((), M') ∧ zSt (zTS m) M M' ∧ z_p M' = z_p M ∧ zMT M' m t o (tS o u) (bS o u) (eS o u) ∧ zMP M' m t u ∧ zKT m t M M' := by
  obtain ⟨g', g1, g2, g3⟩ := l_keepDraft (O := O) hm ht ho hd 64 0 (by omega) (z_i M (m + 10)) (fun s hs => by omega) (fun _ _ => rfl)
  have hm' : zMo (w_i (w_u M (m + 10) g') (m + 11) t (nI o)) m := hm.fr rfl rfl rfl
  obtain ⟨M', l1, l2, l3, l4, l5, l6⟩ := c_layTable (O := O) hm' ht hu (by simp (disch := omega) only [zlet, w_i_k, w_i_n, w_i_i, w_i_j, w_i_p, w_i_s, w_j_k, w_j_n, w_j_i, w_j_j, w_j_p, w_j_s, w_p_k, w_p_n, w_p_i, w_p_j, w_p_p, w_p_s, w_c_k, w_c_n, w_c_i, w_c_j, w_c_p, w_c_s, w_u_k, w_u_n, w_u_i, w_u_j, w_u_p, w_u_s, q_nf, ↓reduceIte, if_true, if_false, eq_self, and_true, true_and, and_false, false_and, Option.bind_some, ne_eq, not_false_eq_true, not_true_eq_false]) (fun s hs => by
    simp (disch := omega) only [zlet, w_i_k, w_i_n, w_i_i, w_i_j, w_i_p, w_i_s, w_j_k, w_j_n, w_j_i, w_j_j, w_j_p, w_j_s, w_p_k, w_p_n, w_p_i, w_p_j, w_p_p, w_p_s, w_c_k, w_c_n, w_c_i, w_c_j, w_c_p, w_c_s, w_u_k, w_u_n, w_u_i, w_u_j, w_u_p, w_u_s, q_nf, ↓reduceIte, if_true, if_false, eq_self, and_true, true_and, and_false, false_and, Option.bind_some, ne_eq, not_false_eq_true, not_true_eq_false]
    exact g1 s hs)
  refine ⟨M', ?_, ?_, l3.trans rfl, l4, l5, ?_⟩
  · refine (g3 _ (zEv.bind l1 (zEv.some _))).to fun n => ?_
    rw [w_u_self]
    unfold F_Mo_keepDraft f_Mo_keepDraft_0
    rfl
  · exact ((zSt.rf.wu (Or.inl ⟨by omega, by omega⟩)).wi (Or.inl ⟨by omega, by omega⟩)).tr l2
  · refine zKT.tr (M1 := w_i (w_u M (m + 10) g') (m + 11) t (nI o)) (fun t' h1 h2 => ⟨?_, fun k hk => ?_, fun k hk => ?_⟩) l6
    · simp (disch := omega) only [zlet, w_i_k, w_i_n, w_i_i, w_i_j, w_i_p, w_i_s, w_j_k, w_j_n, w_j_i, w_j_j, w_j_p, w_j_s, w_p_k, w_p_n, w_p_i, w_p_j, w_p_p, w_p_s, w_c_k, w_c_n, w_c_i, w_c_j, w_c_p, w_c_s, w_u_k, w_u_n, w_u_i, w_u_j, w_u_p, w_u_s, q_nf, ↓reduceIte, if_true, if_false, eq_self, and_true, true_and, and_false, false_and, Option.bind_some, ne_eq, not_false_eq_true, not_true_eq_false, h1]
    · simp (disch := omega) only [zlet, w_i_k, w_i_n, w_i_i, w_i_j, w_i_p, w_i_s, w_j_k, w_j_n, w_j_i, w_j_j, w_j_p, w_j_s, w_p_k, w_p_n, w_p_i, w_p_j, w_p_p, w_p_s, w_c_k, w_c_n, w_c_i, w_c_j, w_c_p, w_c_s, w_u_k, w_u_n, w_u_i, w_u_j, w_u_p, w_u_s, q_nf, ↓reduceIte, if_true, if_false, eq_self, and_true, true_and, and_false, false_and, Option.bind_some, ne_eq, not_false_eq_true, not_true_eq_false]
      exact g2 _ (by omega)
    · simp (disch := omega) only [zlet, w_i_k, w_i_n, w_i_i, w_i_j, w_i_p, w_i_s, w_j_k, w_j_n, w_j_i, w_j_j, w_j_p, w_j_s, w_p_k, w_p_n, w_p_i, w_p_j, w_p_p, w_p_s, w_c_k, w_c_n, w_c_i, w_c_j, w_c_p, w_c_s, w_u_k, w_u_n, w_u_i, w_u_j, w_u_p, w_u_s, q_nf, ↓reduceIte, if_true, if_false, eq_self, and_true, true_and, and_false, false_and, Option.bind_some, ne_eq, not_false_eq_true, not_true_eq_false]
/-- the known tables' points (one more than) -/
def kn (t s : Nat) : Nat := if t = 0 then (if s < 1 then 5 else if s < 2 then 4 else if s < 13 then 3 else if s < 16 then 2 else if s < 25 then 3 else if s < 26 then 4 else if s < 27 then 3 else if s < 32 then 2 else if s < 36 then 0 else 1)
  else if t = 1 then (if s < 6 then 2 else if s < 9 then 3 else if s < 24 then 2 else if s < 29 then 0 else 1)
  else (if s < 1 then 2 else if s < 2 then 5 else if s < 3 then 4 else if s < 9 then 3 else if s < 46 then 2 else if s < 53 then 0 else 1)
def kno (t : Nat) : Nat := if t = 1 then 5 else 6
def lst (t : Nat) : Nat := if t = 0 then 35 else if t = 1 then 31 else 52
theorem kn_sh {t : Nat} (ht : t < 3) : zSh (kno t) (lst t) (kn t) := by
  rcases (show t = 0 ∨ t = 1 ∨ t = 2 by omega) with rfl | rfl | rfl
  · refine ⟨by decide, by decide, by decide, by decide +kernel, fun s hs => ?_⟩
    have : 35 < s := hs
    simp only [kn, if_true]
    repeat rw [if_neg (by omega)]
  · refine ⟨by decide, by decide, by decide, by decide +kernel, fun s hs => ?_⟩
    have : 31 < s := hs
    rw [kn, if_neg (by omega), if_pos rfl]
    repeat rw [if_neg (by omega)]
  · refine ⟨by decide, by decide, by decide, by decide +kernel, fun s hs => ?_⟩
    have : 52 < s := hs
    rw [kn, if_neg (by omega), if_neg (by omega)]
    repeat rw [if_neg (by omega)]
/-- a stretch filled -/
def rnF (g : Nat → Int32) (a k : Nat) (v : Int32) : Nat → Int32 := fun j => if a ≤ j ∧ j < a + k then v else g j
theorem rnF_0 (g : Nat → Int32) (a : Nat) (v : Int32) : rnF g a 0 v = g := by
  funext j
  unfold rnF
  rw [if_neg (by omega)]
theorem rnF_s (g : Nat → Int32) (a k : Nat) (v : Int32) : upd (rnF g a k v) (a + k) v = rnF g a (k + 1) v := by
  funext j
  rw [upd_at]
  unfold rnF
  by_cases c : j = a + k
  · rw [if_pos c, if_pos (by omega)]
  · rw [if_neg c]
    by_cases d : a ≤ j ∧ j < a + k
    · rw [if_pos d, if_pos (by omega)]
    · rw [if_neg d, if_neg (by omega)]
theorem l_run {O : zO} {M : zM} {m t fr K : Nat} {v : Int32} {g : Nat → Int32} (hm : zMo M m) (ht : t < 3) (hf : fr + K ≤ 64) : ∀ d k, k + d = K → zEv (fun n => f_Mo_run_3 O n m (nI t) (nI fr) (nI K) v (nI k) (w_u M (m + 10) (rnF g (64 * t + fr) k v))) (nI (fr + K), w_u M (m + 10) (rnF g (64 * t + fr) K v)) := by
  intro d
  induction d with
  | zero =>
    intro k hk
    have e : k = K := by omega
    subst e
    refine zEv.succ ((zEv.some _).to fun n => ?_)
    rw [f_Mo_run_3]
    simp (disch := omega) only [zlet, w_i_k, w_i_n, w_i_i, w_i_j, w_i_p, w_i_s, w_j_k, w_j_n, w_j_i, w_j_j, w_j_p, w_j_s, w_p_k, w_p_n, w_p_i, w_p_j, w_p_p, w_p_s, w_c_k, w_c_n, w_c_i, w_c_j, w_c_p, w_c_s, w_u_k, w_u_n, w_u_i, w_u_j, w_u_p, w_u_s, q_nf, ↓reduceIte, if_true, if_false, eq_self, and_true, true_and, and_false, false_and, Option.bind_some, ne_eq, not_false_eq_true, not_true_eq_false, nI_add, pk_mul, pk_sub, nI_ac, q_tlt, q_flt, q_tle, q_fle, q_teq, q_feq, q_tin, nI_cl, q_m1, q_m2, q_m3, q_m4, q_m5, q_m6, q_m7, q_l1, q_l2, q_l3, q_l4, q_l5, q_l6, lN_add, lN_mul, lN_sub, lN_i, nI_l, q_rem, q_rem2, q_div, q_shl, q_shr, q_i0, q_i1, q_i2, q_i3, q_i4, q_i5, q_i6, q_i7, q_i8, q_i9, q_i10, q_i11, q_i12, q_i14, q_i15, q_i16, q_i17, q_i18, q_i19, q_i20, q_i22, q_i24, q_i26, q_i28, q_i30, q_i31, q_i32, q_i35, q_i36, q_i38, q_i40, q_i42, q_i43, q_i48, q_i51, q_i52, q_i56, q_i63, q_i64, q_i67, q_i80, q_i95, q_i99, q_i126, q_i127, q_i128, q_i255, q_i256, q_i512, q_i1024, q_i12000, q_i32512, q_i32768, q_i131072, q_j0, q_j1, q_j2, q_j3, q_j4, q_j8, q_j256, Nat.one_mul, Nat.zero_add, Nat.add_zero, Nat.sub_zero, Nat.mul_one, q_ofN]
  | succ d ih =>
    intro k hk
    refine zEv.succ ((ih (k + 1) (by omega)).to fun n => ?_)
    rw [f_Mo_run_3]
    simp (disch := omega) only [zlet, w_i_k, w_i_n, w_i_i, w_i_j, w_i_p, w_i_s, w_j_k, w_j_n, w_j_i, w_j_j, w_j_p, w_j_s, w_p_k, w_p_n, w_p_i, w_p_j, w_p_p, w_p_s, w_c_k, w_c_n, w_c_i, w_c_j, w_c_p, w_c_s, w_u_k, w_u_n, w_u_i, w_u_j, w_u_p, w_u_s, q_nf, ↓reduceIte, if_true, if_false, eq_self, and_true, true_and, and_false, false_and, Option.bind_some, ne_eq, not_false_eq_true, not_true_eq_false, nI_add, pk_mul, pk_sub, nI_ac, q_tlt, q_flt, q_tle, q_fle, q_teq, q_feq, q_tin, nI_cl, q_m1, q_m2, q_m3, q_m4, q_m5, q_m6, q_m7, q_l1, q_l2, q_l3, q_l4, q_l5, q_l6, lN_add, lN_mul, lN_sub, lN_i, nI_l, q_rem, q_rem2, q_div, q_shl, q_shr, q_i0, q_i1, q_i2, q_i3, q_i4, q_i5, q_i6, q_i7, q_i8, q_i9, q_i10, q_i11, q_i12, q_i14, q_i15, q_i16, q_i17, q_i18, q_i19, q_i20, q_i22, q_i24, q_i26, q_i28, q_i30, q_i31, q_i32, q_i35, q_i36, q_i38, q_i40, q_i42, q_i43, q_i48, q_i51, q_i52, q_i56, q_i63, q_i64, q_i67, q_i80, q_i95, q_i99, q_i126, q_i127, q_i128, q_i255, q_i256, q_i512, q_i1024, q_i12000, q_i32512, q_i32768, q_i131072, q_j0, q_j1, q_j2, q_j3, q_j4, q_j8, q_j256, Nat.one_mul, Nat.zero_add, Nat.add_zero, Nat.sub_zero, Nat.mul_one, q_ofN, hm.k, hm.p10, hm.k10, hm.n10, w_u_w, rnF_s]
theorem c_run {O : zO} {M : zM} {m t fr K : Nat} {v : Int32} {g : Nat → Int32} (hm : zMo M m) (ht : t < 3) (hf : fr + K ≤ 64) : zEv (fun n => F_Mo_run O n m (nI t) (nI fr) (nI K) v (w_u M (m + 10) g)) (nI (fr + K), w_u M (m + 10) (rnF g (64 * t + fr) K v)) := by
  have h := l_run (O := O) (v := v) (g := g) hm ht hf K 0 (by omega)
  rw [rnF_0] at h
  exact h
