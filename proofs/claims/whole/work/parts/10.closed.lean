theorem x_fix {cc : ByteArray} {pc np k : Nat} {ins : Instr} (hd : decode cc pc = .ok (ins, np - pc)) (hlen : Nat.beq np (pc + k) = true) : np = pc + k ∧ decode cc pc = .ok (ins, k) := by
  have h := Nat.eq_of_beq_eq_true hlen
  subst h
  rw [Nat.add_sub_cancel_left] at hd
  exact ⟨rfl, hd⟩
theorem x_ck_v {rc na : Nat} {as : List Value} {w : xW} (h0 : rc ≠ 99) (h : x_ck rc na as w = true) : ∃ (q : Nat) (r : List Value) (fs : List Value), as = .ref q :: r ∧ x_at w q = some (.inr (rc, fs)) ∧ r.length = na := by
  unfold x_ck at h
  have hb : Nat.beq rc 99 = false := by
    cases hz : Nat.beq rc 99 with
    | false => rfl
    | true => exact absurd (Nat.eq_of_beq_eq_true hz) h0
  rw [hb] at h
  dsimp only at h
  split at h
  next q r =>
    split at h
    next c fs hw =>
      simp only [Bool.and_eq_true] at h
      have h1 := Nat.eq_of_beq_eq_true h.1
      subst h1
      exact ⟨q, r, fs, rfl, hw, Nat.eq_of_beq_eq_true h.2⟩
    next => cases h
  next => cases h
theorem x_ck_s {na : Nat} {as : List Value} {w : xW} (h : x_ck 99 na as w = true) : as.length = na := by
  unfold x_ck at h
  exact Nat.eq_of_beq_eq_true h
theorem x_any {α : Type} [DecidableEq α] {l : List α} {a : α} (h : l.any (fun q => decide (q = a)) = true) : a ∈ l := by
  obtain ⟨q, hq, he⟩ := List.any_eq_true.mp h
  rw [decide_eq_true_eq] at he
  subst he
  exact hq
theorem x_sw_in {a : Int32} {k : Nat → Prop} {d : Nat} : ∀ {sw : List (Int32 × Nat)} {c : Int32} {t : Nat}, x_sw a k d sw → (∃ j : Nat, sw[j]? = some (c, t) ∧ ∀ i, i < j → ∀ q, sw[i]? = some q → ¬ a = q.1) → a = c → k t
  | [], _, _, _, h, _ => by obtain ⟨j, h1, -⟩ := h; simp at h1
  | (c0, t0) :: r, c, t, hs, h, ha => by
    obtain ⟨j, h1, h2⟩ := h
    cases j with
    | zero =>
      simp at h1
      rw [h1.1, h1.2] at hs
      exact hs.1 ha
    | succ j =>
      have h0 : ¬ a = c0 := h2 0 (Nat.zero_lt_succ j) (c0, t0) (by simp)
      refine x_sw_in (hs.2 h0) ⟨j, by simpa using h1, fun i hi q hq => h2 (i + 1) (by omega) q (by simpa using hq)⟩ ha
theorem x_sw_out {a : Int32} {k : Nat → Prop} {d : Nat} : ∀ {sw : List (Int32 × Nat)}, x_sw a k d sw → (∀ q ∈ sw, ¬ a = q.1) → k d
  | [], h, _ => h
  | (c, t) :: r, h, hn => x_sw_out (h.2 (hn (c, t) List.mem_cons_self)) (fun q hq => hn q (List.mem_cons_of_mem _ hq))
def x_G (p : Program) (l : Launch) (e : Env) (R : Room) (s : State) (m : MethodId) (args : Array Value) (below : List Frame) (meth : Method) (c : Code) (D : va_G) (ad : Nat → Nat) (cT : Nat → ClassId) (A : Nat → Prop) (Q : xQ) (nL : Nat) (pc : Nat) (ls : List (Nat × Value)) (st : List Value) (w : xW) : Prop :=
  ∀ (H : Heap) (locs : List Loc) (lsA : Array Slot), va_P D vwCl (x_cw ad cT w) H → va_D A (x_cw ad cT w) → va_S A s.heap H locs → lv_has lsA nL (x_ml ad ls) → W p l e R s m args below meth c H locs 0 0 (MQ below (x_Qc D ad cT A Q) args s 0 0 A) (F0 m pc lsA (st.map (x_rv ad)))
section XS
variable {p : Program} {l : Launch} {e : Env} {R : Room} {s : State} {m : MethodId} {args : Array Value} {below : List Frame} {meth : Method} {c : Code} {D : va_G} {ad : Nat → Nat} {cT : Nat → ClassId} {A : Nat → Prop} {Q : xQ} {d nL on : Nat} {cc : ByteArray} {ret : Option FieldType}
theorem x_ret {H : Heap} {locs : List Loc} {w : xW} {r : Option Value} (hP : va_P D vwCl (x_cw ad cT w) H) (hD : va_D A (x_cw ad cT w)) (hS : va_S A s.heap H locs) (hK : va_K D vwCl (x_tys cT) s) (hN : ∀ c ∈ xNs, va_Nw c s) (hq : Q r w) : ∀ t : State, t.heap = H → s.WarmedH t.vm → x_Qc D ad cT A Q args s (.returned (r.map (x_rv ad))) t :=
  fun t ht hW => ⟨⟨r, w, rfl, hq, by rw [ht]; exact hP, va_K.moved hW.alike hK, hD, fun c hc => xNs_warm hW c hc (hN c hc)⟩, hS.F ht⟩
theorem x_br_go {H : Heap} {locs : List Loc} {lsA : Array Slot} {w : xW} {ls : List (Nat × Value)} {pc x : Nat} {cn : Jvm.ClassFile.Cond} {off : Int} {a b : Int32} {r : List Value} {Z : State → Prop} (hx : p.tables.exec = Jvm.exec) (hb : c.code = cc) (hd : decode cc pc = .ok (.if_icmp cn off, 3)) (ht : (pc : Int) + off = (x : Int))
    (h : x_br cn a b (W p l e R s m args below meth c H locs 0 0 Z (F0 m x lsA r)) (W p l e R s m args below meth c H locs 0 0 Z (F0 m (pc + 3) lsA r))) : W p l e R s m args below meth c H locs 0 0 Z (F0 m pc lsA (.int b :: .int a :: r)) := by
  cases cn with
  | eq => exact lv_icmp_eq hx hb hd ht h.1 h.2
  | ne => exact lv_icmp_ne hx hb hd ht h.1 h.2
  | lt => exact lv_icmp_lt hx hb hd ht h.1 h.2
  | ge => exact lv_icmp_ge hx hb hd ht h.1 h.2
  | gt => exact lv_icmp_gt hx hb hd ht h.1 h.2
  | le => exact lv_icmp_le hx hb hd ht h.1 h.2
theorem x_br_go0 {H : Heap} {locs : List Loc} {lsA : Array Slot} {w : xW} {ls : List (Nat × Value)} {pc x : Nat} {cn : Jvm.ClassFile.Cond} {off : Int} {a : Int32} {r : List Value} {Z : State → Prop} (hx : p.tables.exec = Jvm.exec) (hb : c.code = cc) (hd : decode cc pc = .ok (.ifCond cn off, 3)) (ht : (pc : Int) + off = (x : Int))
    (h : x_br cn a 0 (W p l e R s m args below meth c H locs 0 0 Z (F0 m x lsA r)) (W p l e R s m args below meth c H locs 0 0 Z (F0 m (pc + 3) lsA r))) : W p l e R s m args below meth c H locs 0 0 Z (F0 m pc lsA (.int a :: r)) := by
  cases cn with
  | eq => exact lv_if_eq hx hb hd ht h.1 h.2
  | ne => exact lv_if_ne hx hb hd ht h.1 h.2
  | lt => exact lv_if_lt hx hb hd ht h.1 h.2
  | ge => exact lv_if_ge hx hb hd ht h.1 h.2
  | gt => exact lv_if_gt hx hb hd ht h.1 h.2
  | le => exact lv_if_le hx hb hd ht h.1 h.2
end XS
