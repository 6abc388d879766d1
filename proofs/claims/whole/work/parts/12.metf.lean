/-- a contract out of a walk, of a member of the JDK's for which the machine has no entry of its own -/
theorem z_metF {l : Launch} {D : zD} {i : zMi} {as : List zV} {M : zM} {r : Option zV} {M' : zM} (hy : plainFor i.1 = true) (hlen : (z_ent as).length ≤ i.2.2.1)
    (body : ∀ X : zX, zC X i.1.cls i.2.1 i.2.2.1 i.2.2.2.2 → zE X r M' i.2.2.2.2.cells i.2.2.2.2.slots → zRt X i.2.2.2.1 → (i.1.name = "<init>" → zIn X) → zDD X = D → zLl X = l → zW X 0 0 0 (z_en as i.2.2.1) [] M) : zMet l D i as M r M' := by
  obtain ⟨y, b, nL, ret, rm⟩ := i
  refine va_MetF (cc := b) (maxL := nL) (ret := ret) hy rfl ?_
  intro p e s m args below meth c s₁ B hml hv
  obtain ⟨rfl, hH, hU, hO, hx0⟩ := hv
  have hts := atoms_spec (ws := Cond.code y b nL ret :: zB) B.pre
  have hown : s.vm.findClass y.cls = some m.cls := findClass_of_methodNamed B.named
  have w := body (p, l, e, rm, s, m, (as.map z_v).toArray, below, meth, c, MQ below (zPost D r M') (as.map z_v).toArray s rm.cells rm.slots (z_A D), D)
    ⟨B.exec, B.bytes, hml, rfl, hown, fun w hw => hts w (List.mem_cons_of_mem _ hw), hU, hO, hx0, B.notSynchronized⟩ rfl B.returns (fun hn => by have := (name_of_methodNamed B.named B.method).1; exact this.trans hn) rfl rfl
  rw [lg_entry_eq]
  exact w s.heap [] _ hH va_S.rf (z_en_lv as hlen)
