set_option maxHeartbeats 4000000 in
/-- what the small machine says of a call is a contract of the machine -/
theorem x_sound (l : Launch) (D : va_G) (ad : Nat → Nat) (cT : Nat → ClassId) : ∀ (d M : Nat) (as : List Value) (w : xW) (Q : xQ), Cd d M as w Q → x_Con l D ad cT d M as w Q
  | 0, _, _, _, _, h => h.elim
  | d + 1, M, as, w, Q, h => by
    intro sz L nL rc na on y cc ret hrow
    obtain ⟨g1, g2, g3, g4, g5, g6, g7, hok⟩ := x_row_gd hrow
    unfold Cd at h
    rw [hrow] at h
    dsimp only at h
    split at h
    next hck hwd =>
      refine Met.ofW (cc := cc) (maxL := nL) (ret := ret) g1 rfl ?_
      intro p e s m args below meth c s₁ B hml hv
      obtain ⟨rfl, hsz, hP, hK, hD0, hN⟩ := hv
      have hts : ∀ z ∈ xTs, z.before (as.map (x_rv ad)).toArray s = true := fun z hz => atoms_spec (ws := Cond.code y cc nL ret :: xTs) B.pre z (List.mem_cons_of_mem _ hz)
      have hown : s.vm.findClass (xR on) = some m.cls := by rw [← g2]; exact findClass_of_methodNamed B.named
      subst hsz
      have hD := hD0.self (sz := s.heap.size)
      have hA : ∀ q : Nat, s.heap.size ≤ q → va_A (x_cw ad cT w) s.heap.size q := fun q h => Or.inr h
      have hS : va_S (va_A (x_cw ad cT w) s.heap.size) s.heap s.heap [] := va_S.rf
      have hcl := x_closed (p := p) (l := l) (e := e) (args := (as.map (x_rv ad)).toArray) (below := below) (meth := meth) (ad := ad) (Q := Q) (d := d) (C := Cd d) (L := L) B.exec B.bytes hml B.returns B.notSynchronized hown hts hK hN hA (fun M as w Q hc => ⟨Cd.ck hc, x_sound l D ad cT d M as w Q hc⟩) hok
      have hgo := h _ hcl s.heap [] ((lg_sl (as.map (x_rv ad)) ++ List.replicate (nL - (lg_sl (as.map (x_rv ad))).length) Slot.unset).toArray) hP hD hS (by
        rw [← x_args_eq ad as 0]
        exact lv_entry (as.map (x_rv ad)) (by rw [x_sl_eq]; exact Nat.le_of_ble_eq_true hwd))
      rw [lg_entry_eq]
      exact hgo
    next => exact h.elim
