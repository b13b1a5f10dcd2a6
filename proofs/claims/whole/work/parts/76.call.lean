/-! A CALL OF THE LAW -/
section LAWC
variable {D : va_G} {cl : List vw_C} {w1 w2 : va_W} {H : Heap} {A0 : Nat → Prop}
theorem xP_l (h : va_P D cl (w1 ++ w2) H) : va_P D cl w1 H := fun k q hk => h k q (by rw [List.getElem?_append_left (List.getElem?_eq_some_iff.mp hk).1]; exact hk)
theorem xP_r (h : va_P D cl (w1 ++ w2) H) : va_P D cl w2 H := fun k q hk => h (w1.length + k) q (by rw [List.getElem?_append_right (by omega), Nat.add_sub_cancel_left]; exact hk)
theorem xD_l (h : va_D A0 (w1 ++ w2)) : va_D A0 w1 := ⟨fun i j x y hi hj e => h.1 i j x y (by rw [List.getElem?_append_left (List.getElem?_eq_some_iff.mp hi).1]; exact hi) (by rw [List.getElem?_append_left (List.getElem?_eq_some_iff.mp hj).1]; exact hj) e, fun k q hk => h.2 k q (by rw [List.getElem?_append_left (List.getElem?_eq_some_iff.mp hk).1]; exact hk)⟩
theorem xD_r (h : va_D A0 (w1 ++ w2)) : va_D A0 w2 := ⟨fun i j x y hi hj e => by
    have := h.1 (w1.length + i) (w1.length + j) x y (by rw [List.getElem?_append_right (by omega), Nat.add_sub_cancel_left]; exact hi) (by rw [List.getElem?_append_right (by omega), Nat.add_sub_cancel_left]; exact hj) e
    omega, fun k q hk => h.2 (w1.length + k) q (by rw [List.getElem?_append_right (by omega), Nat.add_sub_cancel_left]; exact hk)⟩
/-- what a call made of its own cells, beside the others, which it left alone -/
theorem x_joinA {w1' : va_W} {H1 : Heap} (hP : va_P D cl (w1 ++ w2) H) (hD : va_D A0 (w1 ++ w2)) (hk : ∀ q : Nat, q < H.size → ¬ va_A w1 H.size q → H1[q]? = H[q]?) (hF : ∀ q, va_A w1 H.size q → A0 q) (hP1 : va_P D cl w1' H1) (hD1 : va_D (va_A w1 H.size) w1') : va_P D cl (w2 ++ w1') H1 ∧ va_D A0 (w2 ++ w1') := by
  have apart : ∀ (k : Nat) (q : Nat × va_E), w2[k]? = some q → q.1 < H.size ∧ ¬ va_A w1 H.size q.1 := by
    intro k q hq
    have hl := (xP_r hP k q hq).lt
    refine ⟨hl, fun h => ?_⟩
    rcases h with ⟨k2, e, h⟩ | h
    · have hk2 := (List.getElem?_eq_some_iff.mp h).1
      have := hD.1 k2 (w1.length + k) (q.1, e) q (by rw [List.getElem?_append_left hk2]; exact h) (by rw [List.getElem?_append_right (by omega), Nat.add_sub_cancel_left]; exact hq) rfl
      omega
    · omega
  refine ⟨va_P.app (fun k q hq => ?_) hP1, va_D.app (xD_r hD) (hD1.weaken (fun k q _ h => hF q.1 h)) (fun i j x y hx hy hxy => ?_)⟩
  · obtain ⟨g1, g2⟩ := apart k q hq
    exact (xP_r hP k q hq).kept (hk q.1 g1 g2)
  · exact (apart i x hx).2 (by rw [hxy]; exact hD1.2 j y hy)
end LAWC
section LAWC2
variable {p : Program} {l : Launch} {e : Env} {R : Room} {s : State} {m : MethodId} {args : Array Value} {below : List Frame} {meth : Method} {c : Code} {H : Heap} {locs : List Loc} {Q : State → Prop} {cells slots : Nat}
variable {pc : Nat} {ls : Array Slot} {rest st0 : List Value} {a : Array Value} {A0 A1 : Nat → Prop} {H0 : Heap} {free : Addr → Prop}
theorem x_callL {D : va_G} {ad : Nat → Nat} {cT : Nat → ClassId} {Q1 : xQ} (hr : va_Run p l e R s m args below meth c H locs cells slots 0 0 (F0 m pc ls st0) rest (x_Qc D ad cT A1 Q1 a) free) (hS : va_S A0 H0 H locs) (hA : ∀ q, q < H.size → A1 q → A0 q) (hf : ∀ q, free q → A0 q)
    (kk : ∀ (r : Option Value) (w : xW) (t : State) (H1 : Heap) (locs1 : List Loc), t.heap = H1 → Q1 r w → x_B D ad cT A1 w t → (∀ q : Nat, q < H.size → ¬ A1 q → H1[q]? = H[q]?) → va_S A0 H0 H1 locs1 → W p l e R s m args below meth c H1 locs1 cells slots Q (F0 m (pc + 3) ls ((r.map (x_rv ad)).toList ++ rest))) : W p l e R s m args below meth c H locs cells slots Q (F0 m pc ls st0) := by
  intro T hT X
  obtain ⟨v, st₀, t, T', L, h0, X', hL, e1, e2, ⟨⟨r, u, hv, hp, hb⟩, hz, hk⟩, st⟩ := hr T hT X
  cases hv
  rw [h0] at hz hk
  obtain ⟨t2, a1, b1⟩ := kk r u t T'.heap (locs ++ L) e1.symm hp hb (fun q h1 h2 => by rw [e1]; exact hk q h1 h2)
    ⟨Nat.le_trans hS.1 (by rw [e1]; exact hz), fun q h1 h2 => by rw [e1, hk q (Nat.lt_of_lt_of_le h1 hS.1) (fun z => h2 (hA q (Nat.lt_of_lt_of_le h1 hS.1) z))]; exact hS.2.1 q h1 h2, fun q hq => by
      rcases List.mem_append.mp hq with h | h
      · exact hS.2.2 q h
      · exact hf _ (hL q h)⟩ T' rfl X'
  exact ⟨t2, st t2 a1, b1⟩
set_option maxHeartbeats 4000000 in
theorem law_call {D : va_G} {ad : Nat → Nat} {cT : Nat → ClassId} {wr : va_W} {w : xW} {M d idx : Nat} {r2 : List Value} {Q1 : xQ} {L2 : xL} {nL2 rc na on2 : Nat} {y2 : MethodName} {cc2 : ByteArray} {ret2 : Option FieldType}
    (hx : p.tables.exec = Jvm.exec) (hb : c.code = code) (hml : c.maxLocals = 4) (hown : s.vm.findClass R_law = some m.cls) (hts : ∀ z ∈ xTs, z.before args s = true) (hK : va_K D vwCl (x_tys cT) s) (hN : ∀ c ∈ xNs, va_Nw c s) (hA : ∀ q, s.heap.size ≤ q → A0 q)
    (hP : va_P D vwCl (x_cw ad cT w ++ wr) H) (hD : va_D A0 (x_cw ad cT w ++ wr)) (hS : va_S A0 s.heap H locs) (hlsz : ls.size = 4)
    (hrow : x_row M = some (L2, nL2, rc, na, on2, y2, cc2, ret2)) (hrc : rc ≠ 99) (hlink : Cond.methodLink R_law idx y2 ∈ xTs) (hcd : Cd d M (.ref 0 :: r2) w Q1) (hd : d ≤ 260) (hwd : (rest.map fun v => v.category).sum ≤ 8) (hdg : decode code pc = .ok (.invokevirtual idx, 3)) (hcl : cells ≤ 600000) (hsl : slots ≤ 7302250)
    (kk : ∀ (r : Option Value) (w' : xW) (H1 : Heap) (locs1 : List Loc), Q1 r w' → va_P D vwCl (wr ++ x_cw ad cT w') H1 → va_D A0 (wr ++ x_cw ad cT w') → va_S A0 s.heap H1 locs1 → W p l e room_1 s m args below meth c H1 locs1 cells slots Q (F0 m (pc + 3) ls ((r.map (x_rv ad)).toList ++ rest))) : W p l e room_1 s m args below meth c H locs cells slots Q (F0 m pc ls ((r2.map (x_rv ad)).reverse ++ .ref (ad 0) :: rest)) := by
  obtain ⟨g1, g2, g3, g4, g5, g6, g7, -⟩ := x_row_gd hrow
  obtain ⟨L3, nL3, rc3, na3, on3, y3, cc3, ret3, hrow3, hck, hwdt⟩ := Cd.ck hcd
  rw [hrow] at hrow3
  cases hrow3
  obtain ⟨q, r3, fs, hq, hw, hna⟩ := x_ck_v hrc hck
  cases hq
  rcases g6 with ⟨z, -⟩ | ⟨-, i1, i2, i3⟩
  · exact absurd z hrc
  obtain ⟨kq, hkq, hk1⟩ : ∃ kq : vw_C, vwCl[rc]? = some kq ∧ kq.1 = y2.cls := by
    cases hz : vwCl[rc]? with
    | none => rw [hz] at i3; cases i3
    | some kq => rw [hz] at i3; exact ⟨kq, rfl, Option.some.inj i3⟩
  have hM := x_sound l D ad cT d M _ w Q1 hcd H.size _ _ _ _ _ _ _ _ hrow
  have hap := x_apart (xD_l hD) hS hA
  have hGood : GoodIn xTs (wsV R_law idx y2.cls y2 (Cond.code y2 cc2 nL2 ret2 :: xTs)) := by
    intro z hz
    refine x_goodIn z ?_
    unfold wsV at hz
    simp only [List.cons_append, List.nil_append, List.mem_cons] at hz
    rcases hz with rfl | rfl | rfl | rfl | rfl | hz
    · exact hlink
    · exact i1
    · exact i2
    · exact g4
    · exact g3
    · exact hz
  refine x_callL (va_runV (As := r2.map (x_rv ad)) (rest := rest) (b := ad 0) ⟨hx, hb, hml, hown, hts⟩ hM (cwV na hts hGood rfl rfl rfl ⟨rfl, g5⟩ ⟨by show d + 1 ≤ 2048; omega, by show 8 + (nL2 + 11) + 64 * d ≤ 84000; omega⟩) ⟨x_Pc_blind, ?_, fun U hU hW => ⟨rfl, by rw [hU], by rw [hU]; exact xP_l hP, va_K.moved hW.alike hK, (xD_l hD).weaken (fun _ _ _ _ => trivial), fun c hc => xNs_warm hW c hc (hN c hc)⟩⟩ rfl (by rw [List.length_map]; exact hna) hlsz rfl (lv_room hwd) hdg ⟨hcl, hsl⟩) hS (fun q _ z => hap q z) hap (fun o w1 t H1 locs1 ht hk hB hkp hS1 => ?_)
  · have hrecv := va_recv hK (xP_l hP) hkq (x_cw_at (ad := ad) (cT := cT) hw)
    rw [hk1] at hrecv
    exact hrecv
  · obtain ⟨j1, j2⟩ := x_joinA hP hD hkp hap (by rw [← ht]; exact hB.1) hB.2.2.1
    exact kk o w1 H1 locs1 hk j1 j2 hS1
end LAWC2
