/-! arrays as both see them -/
theorem x_up_same {α : Type} {f : Nat → α} {k : Nat} {v : α} (h : f k = v) : x_up f k v = f := by
  funext j
  unfold x_up
  by_cases hj : j = k
  · rw [if_pos hj, hj, h]
  · rw [if_neg hj]
theorem fillV_same {am : Nat → Int64} {s : Nat} {v : Int64} (h : ∀ j, s ≤ j → am j = v) : ∀ n, fillV am s v n = am
  | 0 => rfl
  | n + 1 => by unfold fillV; rw [fillV_same h n]; exact x_up_same (h _ (by omega))
theorem fillR_same {re : Nat → UInt64} {s : Nat} (h : ∀ j, s ≤ j → re j = FP.dconst0) : ∀ n, fillR re s n = re
  | 0 => rfl
  | n + 1 => by unfold fillR; rw [fillR_same h n]; exact x_up_same (h _ (by omega))
theorem fillV_F {am : Nat → Int64} {s : Nat} : ∀ n, fillV am s (-1) n = fillF am s n
  | 0 => rfl
  | n + 1 => by unfold fillV fillF; rw [fillV_F n]
theorem arr_types : ∀ q, q < 64 → 16 ≤ q → tIsType (nI q) = true → uNum (nI q) = tIsNum (nI q - 16) ∧ tIsType (nI q - 16) = true ∧ (nI q - 16).toInt = (q : Int) - 16 := by decide +kernel
theorem arr_type {t : Int32} (h : tIsType t = true) (h16 : 16 ≤ t.toInt) : uNum t = tIsNum (t - 16) ∧ tIsType (t - 16) = true ∧ (t - 16).toInt = t.toInt - 16 := by
  have hr := tIsType_rng h
  have e := nI_toI hr.1
  have := arr_types t.toInt.toNat (by omega) (by omega) (by rw [← e]; exact h)
  rw [← e] at this
  refine ⟨this.1, this.2.1, ?_⟩
  rw [this.2.2]
  omega
theorem tIsArr_T {t : Int32} (h : tIsArr t = true) : tIsType t = true ∧ 16 ≤ t.toInt := by
  unfold tIsArr at h
  simp only [Bool.and_eq_true, Bool.not_eq_true', decide_eq_false_iff_not] at h
  exact ⟨h.1, i_not_lt h.2⟩
theorem arr_facts {h : SH} (hI : hInv h) {t : Nat} (ht : (t : Int) < (hTh h).toInt) (hl : ¬ hLe h t = -1) : hIsArray h (nI t) = true ∧ hTyEl h (nI t) = hTy h t - 16 ∧ tIsType (hTy h t - 16) = true ∧ (hTy h t - 16).toInt = (hTy h t).toInt - 16 ∧ 0 ≤ (hSt h t).toInt ∧ 0 ≤ (hLe h t).toInt ∧ (hSt h t).toInt + (hLe h t).toInt ≤ (hEl h).toInt := by
  obtain ⟨f1, f2, f3, f4, f5⟩ := thing_facts hI ht
  have hr := hI.1.2.2.2.2 t ht hl
  have ha := arr_type f5 ((hI.2.1 t ht).2.2 hl)
  have e : hIsArray h (nI t) = true := by
    unfold hIsArray
    rw [f4, f2, decide_eq_false hl]
    rfl
  refine ⟨e, ?_, ha.2.1, ha.2.2, hr⟩
  unfold hTyEl
  rw [e, f2]
  rfl
theorem el_facts {h : SH} (hI : hInv h) {t : Nat} (ht : (t : Int) < (hTh h).toInt) (hl : ¬ hLe h t = -1) {i : Int32} (hi0 : 0 ≤ i.toInt) (hi : i.toInt < (hLe h t).toInt) : hHasEl h (nI t) i = true ∧ vp_in (hSt h t + i) 4000 ∧ (hSt h t + i).toInt = (hSt h t).toInt + i.toInt ∧ ix (hSt h t + i) = ix (hSt h t) + ix i := by
  obtain ⟨f1, f2, f3, f4, f5, f6, f7⟩ := arr_facts hI ht hl
  have f8 := hI.1.2.2.2.1
  have e : (hSt h t + i).toInt = (hSt h t).toInt + i.toInt := i_add (by omega) (by omega)
  refine ⟨?_, vp_in_iff.mpr ⟨by omega, by show (hSt h t + i).toInt < 4000; omega⟩, e, ?_⟩
  · unfold hHasEl
    rw [f1, (thing_facts hI ht).2.1]
    have e1 : ¬ i < 0 := by
      rw [Int32.lt_iff_toInt_lt]
      show ¬ i.toInt < 0
      omega
    have e2 : ¬ hLe h t ≤ i := by
      rw [Int32.le_iff_toInt_le]
      omega
    rw [decide_eq_false e1, decide_eq_false e2]
    rfl
  · rw [ix_eq, ix_eq, ix_eq, e]
    omega
theorem uRoom_iff {h : SH} (hh : hOK h) {n : Int32} (hn : 0 ≤ n.toInt) : uRoom h 1 n.toInt64 = true ↔ hTh h < 400 ∧ (hEl h).toInt + n.toInt ≤ 4000 := by
  have h1 := hh.1
  have h2 := hh.2.1
  have h3 := hh.2.2.1
  have h4 := hh.2.2.2.1
  unfold uRoom
  simp only [Bool.and_eq_true, Bool.not_eq_true', decide_eq_false_iff_not]
  have e3 : ((hTh h).toInt64 + 1).toInt = (hTh h).toInt + 1 := i64_add (a := hTh h) (b := 1)
  rw [Int64.lt_iff_toInt_lt, Int64.lt_iff_toInt_lt, e3, i64_add, Int32.lt_iff_toInt_lt]
  show ¬ (400 : Int) < _ ∧ ¬ (4000 : Int) < _ ↔ _ < (400 : Int) ∧ _
  omega
theorem hMA_T {h : SH} (hI : hInv h) {t n : Int32} (ht : tIsArr t = true) (hn : 0 ≤ n.toInt) (hr : uRoom h 1 n.toInt64 = true) : hMA h t n = (hTh h, uMk h t n) := by
  obtain ⟨r1, r2⟩ := (uRoom_iff hI.1 hn).mp hr
  have hh := hI.1
  have h4 := i_lt r1
  have e400 : (400 : Int32).toInt = 400 := rfl
  have hx := hh.1
  have hE := hh.2.2.1
  have hE2 := hh.2.2.2.1
  have e1 : ¬ n < 0 := by rw [Int32.lt_iff_toInt_lt]; show ¬ n.toInt < 0; omega
  have e2 : n ≤ 4000 - hEl h := by
    have e4 : (4000 : Int32).toInt = 4000 := rfl
    rw [Int32.le_iff_toInt_le, i_sub (by omega) (by omega)]
    omega
  have hne : ¬ hTh h = -1 := fun y => by rw [y] at hx; exact absurd hx (by decide)
  obtain ⟨ta, tb⟩ := tIsArr_T ht
  obtain ⟨u1, u2, u3⟩ := arr_type ta tb
  unfold hMA
  rw [decide_eq_false e1, decide_eq_true e2, hMk_T r1]
  simp only [decide_eq_false hne, Bool.false_or, Bool.not_true, cond_false]
  have eN : hNums (hTh h + 1, hEl h + n, x_up (hTy h) (ix (hTh h)) t, x_up (hSt h) (ix (hTh h)) (hEl h), x_up (hLe h) (ix (hTh h)) n, hAm h, hRe h) (hTh h) = uNum t := by
    rw [u1]
    unfold hNums
    have e5 : hIsArray (hTh h + 1, hEl h + n, x_up (hTy h) (ix (hTh h)) t, x_up (hSt h) (ix (hTh h)) (hEl h), x_up (hLe h) (ix (hTh h)) n, hAm h, hRe h) (hTh h) = true := by
      unfold hIsArray hIsThing
      have g1 : ¬ hTh h < 0 := i_nneg hx
      have g2 : ¬ hTh h + 1 ≤ hTh h := by
        have : (hTh h + 1).toInt = (hTh h).toInt + 1 := i_add (a := hTh h) (b := 1) (by show (_ : Int) ≤ _ + 1; omega) (by show _ + (1 : Int) < _; omega)
        rw [Int32.le_iff_toInt_le, this]
        omega
      have g3 : ¬ n = -1 := fun y => by rw [y] at hn; exact absurd hn (by decide)
      show (!decide (hTh h < 0) && !decide (hTh h + 1 ≤ hTh h) && !decide (x_up (hLe h) (ix (hTh h)) n (ix (hTh h)) = -1)) = true
      rw [x_up_self, decide_eq_false g1, decide_eq_false g2, decide_eq_false g3]
      rfl
    unfold hTyEl
    rw [e5, cond_true]
    show tIsNum (x_up (hTy h) (ix (hTh h)) t (ix (hTh h)) - 16) = _
    rw [x_up_self]
  rw [eN]
  have eEl : hEl h + (bif decide (n ≤ 0) then 0 else n) = hEl h + n := by
    by_cases z : n ≤ 0
    · have z2 := i_le z
      have z3 : n = 0 := Int32.toInt_inj.mp (by show n.toInt = 0; have : (0 : Int32).toInt = 0 := rfl; omega)
      rw [decide_eq_true z, z3]
      rfl
    · rw [decide_eq_false z]
      rfl
  have hz := hI.2.2.2.1
  have hixE : ((ix (hEl h) : Nat) : Int) = (hEl h).toInt := by rw [ix_eq]; omega
  unfold uMk
  rw [eEl, fillR_same (fun j hj => (hz j (by omega)).2)]
  cases uNum t
  · simp only [cond_false]
    rw [fillV_F]
    rfl
  · simp only [cond_true]
    rw [fillV_same (fun j hj => (hz j (by omega)).1)]
theorem hMA_F {h : SH} (hh : hOK h) {t n : Int32} (hn : 0 ≤ n.toInt) (hr : uRoom h 1 n.toInt64 = false) : hMA h t n = (-1, h) := by
  have hE := hh.2.2.1
  have hE2 := hh.2.2.2.1
  have e1 : ¬ n < 0 := by rw [Int32.lt_iff_toInt_lt]; show ¬ n.toInt < 0; omega
  unfold hMA
  by_cases e2 : n ≤ 4000 - hEl h
  · have z : ¬ hTh h < 400 := by
      intro z
      have : uRoom h 1 n.toInt64 = true := by
        refine (uRoom_iff hh hn).mpr ⟨z, ?_⟩
        have e4 : (4000 : Int32).toInt = 4000 := rfl
        rw [Int32.le_iff_toInt_le, i_sub (by omega) (by omega)] at e2
        omega
      rw [hr] at this
      cases this
    rw [decide_eq_false e1, decide_eq_true e2, hMk_F z]
    rfl
  · rw [decide_eq_false e1, decide_eq_false e2]
    rfl
