/-! A known share is set. -/
def ptV (k s : Nat) : Int32 := if s < (zTab (3 + k)).length then (zTab (3 + k)).getD s 0 else 0
theorem ptV_kn : ∀ k, k < 3 → ∀ s, s < 53 → s ≤ lst k → ptV k s = nI (kn k s) - 1 := by decide +kernel
theorem zTab_len : ∀ k, k < 3 → (zTab (3 + k)).length < 64 := by decide +kernel
theorem lst_lt {k : Nat} (hk : k < 3) : lst k < 53 := by
  unfold lst
  split
  · omega
  · split <;> omega
theorem l_setPts {O : zO} {k p G : Nat} (hO : zTabOk O) (hk : k < 3) (hG : kno k ≤ G) (hG9 : G ≤ 9) : ∀ d s M, s + d = lst k + 1 → zShS M p G (lst k) → z_i M p 7 = nI (kno k) → (∀ j, j < s → z_i M (p + 1) j = nI (kn k j) - 1) → ∃ M', zEv (fun n => f_Share_setPoints_14 O n p (O.1 (3 + k)) (nI s) M) ((), M') ∧ zTB M' p (kno k) (kn k) ∧ zSt (fun q => p ≤ q ∧ q ≤ p + 5) M M' ∧ z_p M' = z_p M ∧ z_j M' = z_j M ∧ zShS M' p G (lst k) := by
  intro d
  induction d with
  | zero =>
    intro s M hs h h7 hp
    have hl := lst_lt hk
    obtain ⟨N, T, B, E, hT, hE⟩ := c_Share_lay (O := O) h hG hG9 (kn_sh hk) h7 (fun s hs => hp s (by omega))
    have hh := h
    obtain ⟨k0, p2, p3, p4, p5, p6, k1, k2, k3, k4, k5, n1, n2, n3, n4, n5, i0, i1⟩ := h
    refine ⟨w_S M p N T B E, zEv.succ ?_, ⟨?_, fun j hj => ?_⟩, zSt.rf.wS ⟨by omega, by omega, by omega, by omega⟩, rfl, rfl, hh.fr rfl rfl (fun _ _ => rfl) (fun f _ => by rw [w_S_i, if_neg (by omega), if_neg (by omega), if_neg (by omega), if_neg (by omega)])⟩
    · simp only [f_Share_setPoints_14]
      refine zEv.ip k0 (zEv.ip ?_ (zEv.bind hE (zEv.some _)))
      rw [i1]
      exact nI_lt (by omega) (by omega)
    · rw [w_S_i, if_neg (by omega), if_neg (by omega), if_neg (by omega), if_neg (by omega)]
      exact h7
    · obtain ⟨t1, t2, t3⟩ := hT j hj
      rw [Nat.zero_add, w_S_i, w_S_i, w_S_i, if_neg (by omega), if_neg (by omega), if_pos rfl, if_neg (by omega), if_pos rfl, if_pos rfl]
      exact ⟨t1, t2, t3⟩
  | succ d ih =>
    intro s M hs h h7 hp
    have hl := lst_lt hk
    have hz := zTab_len k hk
    obtain ⟨k0, p2, p3, p4, p5, p6, k1, k2, k3, k4, k5, n1, n2, n3, n4, n5, i0, i1⟩ := id h
    obtain ⟨M', e1, e2, e3, e4, e5, e6⟩ := ih (s + 1) (w_i M (p + 1) s (ptV k s)) (by omega) (h.fr rfl rfl (fun _ _ => rfl) (fun f _ => w_i_ne M _ (by omega))) ((w_i_ne M _ (by omega)).trans h7) (fun j hj => by
      by_cases c : j = s
      · subst c
        rw [w_i_eq]
        exact ptV_kn k hk j (by omega) (by omega)
      · rw [w_i_ne M _ (by omega)]
        exact hp j (by omega))
    refine ⟨M', zEv.succ ?_, e2, (zSt.rf.wi (show p ≤ p + 1 ∧ p + 1 ≤ p + 5 by omega)).tr e3, e4, e5, e6⟩
    simp only [f_Share_setPoints_14]
    refine zEv.ip k0 (zEv.in_ (by rw [i1]; exact nI_nlt (by omega) (by omega)) (zEv.ip (t_b hO (by omega)) ?_))
    have to : ∀ x : Int32, x = ptV k s → zEv (fun n => f_Share_setPoints_40 O (f_Share_setPoints_14 O n) n p (O.1 (3 + k)) (nI s) (z_p M p 2) (nI s) x M) ((), M') := fun x hx => by
      subst hx
      unfold f_Share_setPoints_40
      rw [p2]
      refine zEv.ip k1 (zEv.ip (by rw [n1]; exact zin_nI (by omega) (by omega)) (zEv.zl (zEv.zl ?_)))
      rw [nI_cl (by omega), show nI s + (1 : Int32) = nI (s + 1) from nI_add s 1]
      exact e1
    have hl2 : O.2.2.1 (O.1 (3 + k)) = (zTab (3 + k)).length := (hO (3 + k) (by omega)).2.1
    rw [hl2]
    by_cases c : s < (zTab (3 + k)).length
    · refine zEv.in_ (fun w => by have := (nI_leI (a := (zTab (3 + k)).length) (b := s) (by omega) (by omega)).mp w; omega) (zEv.ip (t_b hO (by omega)) (zEv.ip (zin_nI c (by omega)) ?_))
      refine to _ ?_
      rw [nI_cl (by omega), (hO (3 + k) (by omega)).2.2 s c]
      exact (if_pos c).symm
    · refine zEv.ip ((nI_leI (a := (zTab (3 + k)).length) (b := s) (by omega) (by omega)).mpr (by omega)) ?_
      exact to _ (if_neg c).symm
set_option maxRecDepth 100000 in
set_option maxHeartbeats 4000000 in
theorem c_setPts {O : zO} {k p G : Nat} {M : zM} {x : Int32} (hO : zTabOk O) (hk : k < 3) (hG : kno k ≤ G) (hG9 : G ≤ 9) (hx : x = nI (kno k)) (h : zShS M p G (lst k)) : ∃ M', zEv (fun n => F_Share_setPoints O n p x (O.1 (3 + k)) M) ((), M') ∧ zTB M' p (kno k) (kn k) ∧ zSt (fun q => p ≤ q ∧ q ≤ p + 5) M M' ∧ z_p M' = z_p M ∧ z_j M' = z_j M ∧ zShS M' p G (lst k) := by
  subst hx
  have k0 := h.1
  have i0 : z_i M p 0 = nI G := h.2.2.2.2.2.2.2.2.2.2.2.2.2.2.2.2.1
  obtain ⟨M', e1, e2, e3, e4, e5, e6⟩ := l_setPts (O := O) (p := p) hO hk hG hG9 (lst k + 1) 0 (w_i M p 7 (nI (kno k))) (by omega) (h.fr rfl rfl (fun _ _ => rfl) (fun f _ => w_i_ne M _ (by omega))) (w_i_eq _ _ _ _) (fun j hj => by omega)
  refine ⟨M', ?_, e2, (zSt.rf.wi (show p ≤ p ∧ p ≤ p + 5 by omega)).tr e3, e4, e5, e6⟩
  unfold F_Share_setPoints f_Share_setPoints_0
  refine zEv.ip k0 (zEv.bind (c_min (O := O) (M := M) (nI (kno k)) (z_i M p 0)) ?_)
  refine zEv.ip k0 (zEv.zl ?_)
  have e : (if z_i M p 0 < nI (kno k) then z_i M p 0 else nI (kno k)) = nI (kno k) := by
    rw [i0, if_neg (nI_nlt hG (by omega))]
  show zEv (fun n => f_Share_setPoints_14 O n p (O.1 (3 + k)) (0 : Int32) (w_i M p 7 (if z_i M p 0 < nI (kno k) then z_i M p 0 else nI (kno k)))) ((), M')
  rw [e]
  exact e1
