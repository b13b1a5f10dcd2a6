/-! what a node comes to keeps the state as it ought to be -/
def RR (G : Int → UInt64 → Prop) (κ : Int) (S : SS) (b : Int32) (x : SO) : Prop := Inv G κ x.2 ∧ (x.1 = true → vOK x.2.1 (rK x.2.2.2) (rA x.2.2.2)) ∧ vH x.2.2.1 = b ∧ hKeep S.1 x.2.1 ∧ (rN S.2.2).toInt ≤ (rN x.2.2.2).toInt ∧ (rF S.2.2 = 0 → (x.1 = true → rF x.2.2.2 = 0) ∧ (x.1 = false → 0 < (rF x.2.2.2).toInt))
section INVE
variable {G : Int → UInt64 → Prop} {κ : Int} {S : SS} {b : Int32} {P : SP} {E : Int32 → SS → SO}
theorem Inv_mono {κ1 κ2 : Int} (go : GO G) (h : κ1 ≤ κ2) (h2 : κ2 ≤ gB) (hI : Inv G κ1 S) : Inv G κ2 S := by
  obtain ⟨a, b, c, e, f, g, i, j, l⟩ := hI
  exact ⟨a, b, c, e, f, g, i, ⟨by omega, h2⟩, fun q => go.2.2.1 _ _ _ (l q) (by omega)⟩
theorem Inv_gB (hI : Inv G κ S) : κ ≤ gB := hI.2.2.2.2.2.2.2.1.2
theorem RR.up {κ1 κ2 : Int} {x : SO} (go : GO G) (h : κ1 ≤ κ2) (h2 : κ2 ≤ gB) (hR : RR G κ1 S b x) : RR G κ2 S b x := ⟨Inv_mono go h h2 hR.1, hR.2⟩
theorem RR.and2 {κ1 κ2 : Int} {b1 : Int32} {x : SO} {f : SS → SO} (go : GO G) (h : κ1 ≤ κ2) (h2 : κ2 ≤ gB) (hR : RR G κ1 S b1 x) (hb : x.1 = false → b1 = b) (hf : x.1 = true → RR G κ2 x.2 b (f x.2)) : RR G κ2 S b (oAnd x f) := by
  cases hx : x.1
  · rw [oAnd_f hx]
    have := hb hx
    subst this
    exact hR.up go h h2
  · rw [oAnd_t hx]
    obtain ⟨a1, a2, a3, a4, a5, a6⟩ := hR
    obtain ⟨c1, c2, c3, c4, c5, c6⟩ := hf hx
    exact ⟨c1, c2, c3, a4.trans c4, by omega, fun z => c6 ((a6 z).1 hx)⟩
theorem RR.and {x : SO} {f : SS → SO} (go : GO G) (hR : RR G κ S b x) (hf : x.1 = true → RR G κ x.2 b (f x.2)) : RR G κ S b (oAnd x f) := hR.and2 go (Int.le_refl _) (Inv_gB hR.1) (fun _ => rfl) hf
theorem RR_fail {c n : Int32} (hI : Inv G κ S) (hb : vH S.2.1 = b) (hc : 0 < c.toInt) : RR G κ S b (false, sFail S c n) := ⟨hI, (fun z => by cases z), hb, hKeep.refl _, Int.le_refl _, fun _ => ⟨(fun z => by cases z), fun _ => hc⟩⟩
theorem RR_give {k : Int32} {a : Int64} (hI : Inv G κ S) (hb : vH S.2.1 = b) (hv : vOK S.1 k a) : RR G κ S b (true, sGive S k a) := ⟨hI, fun _ => hv, hb, hKeep.refl _, Int.le_refl _, fun z => ⟨fun _ => z, fun q => by cases q⟩⟩
theorem RR_same (hI : Inv G κ S) (hb : vH S.2.1 = b) (hv : vOK S.1 (rK S.2.2) (rA S.2.2)) : RR G κ S b (true, S) := ⟨hI, fun _ => hv, hb, hKeep.refl _, Int.le_refl _, fun z => ⟨fun _ => z, fun q => by cases q⟩⟩
theorem RR.val {x : SO} (hR : RR G κ S b x) (hx : x.1 = true) : vOK x.2.1 (rK x.2.2.2) (rA x.2.2.2) := hR.2.1 hx
theorem vOK0 {h : SH} {a : Int64} : vOK h 0 a := Or.inl rfl
theorem RR_num {n : Int32} (hI : Inv G κ S) (hb : vH S.2.1 = b) (hv : vOK S.1 (rK S.2.2) (rA S.2.2)) : RR G κ S b (oNum S n) := by
  unfold oNum
  cases decide (rK S.2.2 = 0)
  · exact RR_fail hI hb (by decide)
  · exact RR_same hI hb hv
theorem RR_arr {n : Int32} (hI : Inv G κ S) (hb : vH S.2.1 = b) (hv : vOK S.1 (rK S.2.2) (rA S.2.2)) : RR G κ S b (oArr S n) := by
  unfold oArr
  cases (decide (rK S.2.2 = 1) || (decide (rK S.2.2 = 2) && hIsArray S.1 (rA S.2.2).toInt32))
  · exact RR_fail hI hb (by decide)
  · exact RR_same hI hb hv
theorem RR_ref {n : Int32} (hI : Inv G κ S) (hb : vH S.2.1 = b) (hv : vOK S.1 (rK S.2.2) (rA S.2.2)) : RR G κ S b (oRef S n) := by
  unfold oRef
  cases decide (rK S.2.2 = 0)
  · exact RR_same hI hb hv
  · exact RR_fail hI hb (by decide)
theorem RR_el {n t i : Int32} (hI : Inv G κ S) (hb : vH S.2.1 = b) (hv : vOK S.1 (rK S.2.2) (rA S.2.2)) : RR G κ S b (oEl S n t i) := by
  unfold oEl
  cases decide (t = -1)
  · cases hHasEl S.1 t i
    · exact RR_fail hI hb (by decide)
    · exact RR_same hI hb hv
  · exact RR_fail hI hb (by decide)
theorem RR_cast {n : Int32} (hI : Inv G κ S) (hb : vH S.2.1 = b) (hv : vOK S.1 (rK S.2.2) (rA S.2.2)) : RR G κ S b (oCast P S n) := by
  unfold oCast
  cases (tIsNum (pa P (ix n)) != decide (rK S.2.2 = 0))
  · cases decide (rK S.2.2 = 0)
    · cases (decide (rK S.2.2 = 1) || sIsOf S (pa P (ix n)))
      · exact RR_fail hI hb (by decide)
      · exact RR_same hI hb hv
    · exact RR_give hI hb vOK0
  · exact RR_fail hI hb (by decide)
theorem RR_heap {h' : SH} (hI : Inv G κ S) (hi : hInv h') (hk : hKeep S.1 h') (hG : ∀ j, ∃ q, hRe h' j = hRe S.1 q) : Inv G κ (h', S.2) := by
  refine Inv_heap hI hi hk.1 (fun j => ?_)
  obtain ⟨q, e⟩ := hG j
  rw [e]
  exact hI.2.2.2.2.2.2.2.2 q
theorem RR_made {h' : SH} {n m : Int32} (hI : Inv G κ S) (hb : vH S.2.1 = b) (hi : hInv h') (hk : hKeep S.1 h') (hG : ∀ j, ∃ q, hRe h' j = hRe S.1 q) (hm : m = -1 ∨ ∃ q : Nat, (q : Int) < (hTh h').toInt ∧ m.toInt64 = lN q) : RR G κ S b (oMade (h', S.2) n m) := by
  have hI2 := RR_heap hI hi hk hG
  unfold oMade
  by_cases hz : m = -1
  · rw [decide_eq_true hz]
    have := RR_fail (S := (h', S.2)) (b := b) (c := 6) (n := n) hI2 hb (by decide)
    exact ⟨this.1, this.2.1, this.2.2.1, hk, this.2.2.2.2⟩
  · rw [decide_eq_false hz]
    have := RR_give (S := (h', S.2)) (b := b) (k := 2) (a := m.toInt64) hI2 hb (Or.inr (Or.inr ⟨rfl, hm.resolve_left hz⟩))
    exact ⟨this.1, this.2.1, this.2.2.1, hk, this.2.2.2.2⟩
theorem sVar_eq (S : SS) (v k : Int32) (a : Int64) : (sVar S v k a).1 = S.1 ∧ (sVar S v k a).2.2 = S.2.2 ∧ vH (sVar S v k a).2.1 = vH S.2.1 := by
  unfold sVar
  cases isVar v <;> exact ⟨rfl, rfl, rfl⟩
theorem RR_var {v : Int32} (hI : Inv G κ S) (hb : vH S.2.1 = b) (hv : vOK S.1 (rK S.2.2) (rA S.2.2)) : RR G κ S b (true, sVar S v (rK S.2.2) (rA S.2.2)) := by
  obtain ⟨e1, e2, e3⟩ := sVar_eq S v (rK S.2.2) (rA S.2.2)
  refine ⟨Inv_var hI hv, fun _ => ?_, e3.trans hb, ?_, ?_, fun z => ⟨fun _ => ?_, fun q => by cases q⟩⟩
  · show vOK (sVar S v (rK S.2.2) (rA S.2.2)).1 (rK (sVar S v (rK S.2.2) (rA S.2.2)).2.2) (rA (sVar S v (rK S.2.2) (rA S.2.2)).2.2)
    rw [e1, e2]
    exact hv
  · show hKeep S.1 (sVar S v (rK S.2.2) (rA S.2.2)).1
    rw [e1]
    exact hKeep.refl _
  · show _ ≤ (rN (sVar S v (rK S.2.2) (rA S.2.2)).2.2).toInt
    rw [e2]
    exact Int.le_refl _
  · show rF (sVar S v (rK S.2.2) (rA S.2.2)).2.2 = 0
    rw [e2]
    exact z
/-- puts -/
theorem RR_put {n t i : Int32} (go : GO G) (hI : Inv G κ S) (hb : vH S.2.1 = b) (hv : vOK S.1 (rK S.2.2) (rA S.2.2)) : RR G κ S b (oPut S n t i) := by
  unfold oPut
  by_cases hz : (hPut S.1 t i (rK S.2.2) (rA S.2.2)).1 = 0
  · rw [decide_eq_true hz, cond_true]
    obtain ⟨p1, p2, p3⟩ := hInv_put hI.1 hv hz
    have hj := hI.2.2.2.2.2.2.2.1.1
    refine ⟨Inv_heap hI p1 p2.1 ?_, fun _ => vOK_up p2.1 hv, hb, p2, Int.le_refl _, fun z => ⟨fun _ => z, fun q => by cases q⟩⟩
    intro j
    rcases p3 j with x | x | x
    · rw [x]; exact hI.2.2.2.2.2.2.2.2 j
    · rw [x]; exact go.2.2.1 _ _ _ (go.2.2.2 _).1 hj
    · rw [x]; exact go.2.2.1 _ _ _ (go.2.2.2 _).2 hj
  · rw [decide_eq_false hz, cond_false]
    obtain ⟨q1, q2⟩ := hPut_fail hz
    rw [q1]
    exact RR_fail hI hb q2
theorem el_vOK {h : SH} (hI : hInv h) {t i : Int32} (he : hHasEl h t i = true) : vOK h (hKindAt h t i) (hAmAt h t i) := by
  obtain ⟨a1, a2, a3, a4, a5⟩ := el_nI hI.1 he
  have harr := hHasEl_arr he
  obtain ⟨g1, g2, g3, g4⟩ := el_facts hI a2 a3 a4 a5
  unfold hKindAt
  cases hn : hNums h t
  · have h24 : 24 ≤ (hTy h (ix t)).toInt := by
      have := (hNums_rng hI harr)
      rw [hn] at this
      by_cases z : (hTy h (ix t)).toInt < 24
      · exact absurd (this.mpr z) (by simp)
      · omega
    have := hI.2.2.2.2 (ix t) a2 a3 h24 (ix i) (by rw [ix_eq]; omega)
    rw [← g4] at this
    unfold hAmAt
    rw [he, cond_true, cond_false]
    by_cases hz : hAm h (ix (hSt h (ix t) + i)) = -1
    · rw [decide_eq_true hz, cond_true]
      exact Or.inr (Or.inl ⟨rfl, hz⟩)
    · rw [decide_eq_false hz, cond_false]
      exact Or.inr (Or.inr ⟨rfl, this.resolve_left hz⟩)
  · exact Or.inl rfl
theorem RR_giveEl {t i : Int32} (hI : Inv G κ S) (hb : vH S.2.1 = b) (he : hHasEl S.1 t i = true) : RR G κ S b (true, sGiveEl S t i) := RR_give hI hb (el_vOK hI.1 he)
theorem hKeep_el {h h' : SH} (hk : hKeep h h') (hh : hOK h) {t i : Int32} (he : hHasEl h t i = true) : hHasEl h' t i = true := by
  obtain ⟨a1, a2, a3, a4, a5⟩ := el_nI hh he
  obtain ⟨k1, k2, k3⟩ := hk.2 _ a2
  simp only [hHasEl, hIsArray, hIsThing, Bool.and_eq_true, Bool.not_eq_true', decide_eq_false_iff_not] at he ⊢
  obtain ⟨⟨⟨h1, h2⟩, h3⟩, h4, h5⟩ := he
  refine ⟨⟨⟨h1, ?_⟩, ?_⟩, h4, ?_⟩
  · rw [Int32.le_iff_toInt_le]
    have := hk.1
    rw [ix_eq] at a2
    have := i_not_lt h1
    have e0 : (0 : Int32).toInt = 0 := rfl
    omega
  · rw [k3]; exact h3
  · rw [k3]; exact h5
theorem hKeep_arr {h h' : SH} (hk : hKeep h h') (hh : hOK h) {t : Int32} (he : hIsArray h t = true) : hIsArray h' t = true ∧ hLe h' (ix t) = hLe h (ix t) ∧ hTyEl h' t = hTyEl h t := by
  obtain ⟨a1, a2, a3⟩ := arr_nI hh he
  obtain ⟨k1, k2, k3⟩ := hk.2 _ a2
  have e : hIsArray h' t = true := by
    simp only [hIsArray, hIsThing, Bool.and_eq_true, Bool.not_eq_true', decide_eq_false_iff_not] at he ⊢
    obtain ⟨⟨h1, h2⟩, h3⟩ := he
    refine ⟨⟨h1, ?_⟩, by rw [k3]; exact h3⟩
    rw [Int32.le_iff_toInt_le]
    have := hk.1
    rw [ix_eq] at a2
    have := i_not_lt h1
    have e0 : (0 : Int32).toInt = 0 := rfl
    omega
  refine ⟨e, k3, ?_⟩
  unfold hTyEl
  rw [e, he, k1]
/-- sums: one step of the reals' bound -/
theorem RR_sum {t i : Int32} {a : Int64} {r : UInt64} {m : Int64} {k : Int32} {v : Int64} (go : GO G) (hI : Inv G (κ - 1) S) (hκ : κ ≤ gB) (hb : vH S.2.1 = b) (hn : hNums S.1 t = true) (hr : G (κ - 1 + (rN S.2.2).toInt) r) (hv : vOK S.1 k v) : RR G κ S b (true, (hSum S.1 t i a r m, (sGive S k v).2)) := by
  obtain ⟨p1, p2, p3⟩ := hInv_sum hI.1 (t := t) (i := i) (a := a) (r := r) (m := m) hn
  have hj := hI.2.2.2.2.2.2.2.1
  have hN := hI.2.2.2.2.2.1
  have g := go.1 _ _ hr (by omega) m
  have hI2 : Inv G κ S := Inv_mono go (by omega) hκ hI
  refine ⟨Inv_heap (S := sGive S k v) hI2 p1 p2.1 ?_, fun _ => vOK_up p2.1 hv, hb, p2, Int.le_refl _, fun z => ⟨fun _ => z, fun q => by cases q⟩⟩
  intro j
  show G (κ + (rN S.2.2).toInt) _
  have e : κ - 1 + (rN S.2.2).toInt + 1 = κ + (rN S.2.2).toInt := by omega
  rw [e] at g
  rcases p3 j with x | x | x
  · rw [x]; exact hI2.2.2.2.2.2.2.2.2 j
  · rw [x]; exact g.1.2
  · rw [x]; exact g.2.2
end INVE
