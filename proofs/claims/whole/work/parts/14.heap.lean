/-! the class's heap: reads -/
def hIsThing (h : SH) (t : Int32) : Bool := !decide (t < 0) && !decide (hTh h ≤ t)
def hIsArray (h : SH) (t : Int32) : Bool := hIsThing h t && !decide (hLe h (ix t) = -1)
def hHasEl (h : SH) (t i : Int32) : Bool := hIsArray h t && (!decide (i < 0) && !decide (hLe h (ix t) ≤ i))
def hTypeOf (h : SH) (t : Int32) : Int32 := bif hIsThing h t then hTy h (ix t) else -1
def hLenOf (h : SH) (t : Int32) : Int32 := bif hIsThing h t then hLe h (ix t) else -1
def hTyEl (h : SH) (t : Int32) : Int32 := bif hIsArray h t then hTy h (ix t) - 16 else -1
def hNums (h : SH) (t : Int32) : Bool := tIsNum (hTyEl h t)
def hAmAt (h : SH) (t i : Int32) : Int64 := bif hHasEl h t i then hAm h (ix (hSt h (ix t) + i)) else 0
def hReAt (h : SH) (t i : Int32) : UInt64 := bif hHasEl h t i then hRe h (ix (hSt h (ix t) + i)) else FP.dconst0
def hKindAt (h : SH) (t i : Int32) : Int32 := bif hNums h t then 0 else bif decide (hAmAt h t i = -1) then 1 else 2
/-- things and elements are within their rows, and so are the things' elements -/
def hOK (h : SH) : Prop := 0 ≤ (hTh h).toInt ∧ (hTh h).toInt ≤ 400 ∧ 0 ≤ (hEl h).toInt ∧ (hEl h).toInt ≤ 4000 ∧ ∀ t : Nat, (t : Int) < (hTh h).toInt → ¬ hLe h t = -1 → 0 ≤ (hSt h t).toInt ∧ 0 ≤ (hLe h t).toInt ∧ (hSt h t).toInt + (hLe h t).toInt ≤ (hEl h).toInt
theorem i_not_lt {a b : Int32} (h : ¬ a < b) : b.toInt ≤ a.toInt := by rw [Int32.lt_iff_toInt_lt] at h; omega
theorem i_lt {a b : Int32} (h : a < b) : a.toInt < b.toInt := Int32.lt_iff_toInt_lt.mp h
theorem i_le {a b : Int32} (h : a ≤ b) : a.toInt ≤ b.toInt := Int32.le_iff_toInt_le.mp h
theorem i_not_le {a b : Int32} (h : ¬ a ≤ b) : b.toInt < a.toInt := by rw [Int32.le_iff_toInt_le] at h; omega
theorem i_add {a b : Int32} (h1 : -2147483648 ≤ a.toInt + b.toInt) (h2 : a.toInt + b.toInt < 2147483648) : (a + b).toInt = a.toInt + b.toInt := by
  rw [Int32.toInt_add]
  exact Int.bmod_eq_of_le (by omega) (by omega)
theorem i_sub {a b : Int32} (h1 : -2147483648 ≤ a.toInt - b.toInt) (h2 : a.toInt - b.toInt < 2147483648) : (a - b).toInt = a.toInt - b.toInt := by
  rw [Int32.toInt_sub]
  exact Int.bmod_eq_of_le (by omega) (by omega)
theorem i_rng (a : Int32) : -2147483648 ≤ a.toInt ∧ a.toInt < 2147483648 := ⟨Int32.le_toInt a, Int32.toInt_lt a⟩
theorem ix_eq (a : Int32) : (ix a : Nat) = a.toInt.toNat := rfl
theorem hIsThing_rng {h : SH} {t : Int32} (ht : hIsThing h t = true) : 0 ≤ t.toInt ∧ t.toInt < (hTh h).toInt := by
  simp only [hIsThing, Bool.and_eq_true, Bool.not_eq_true', decide_eq_false_iff_not] at ht
  exact ⟨by simpa using i_not_lt ht.1, i_not_le ht.2⟩
theorem hIsThing_in {h : SH} {t : Int32} (hh : hOK h) (ht : hIsThing h t = true) : vp_in t 400 := by
  have := hIsThing_rng ht
  exact vp_in_iff.mpr ⟨this.1, by have := hh.2.1; omega⟩
theorem hIsArray_thing {h : SH} {t : Int32} (ht : hIsArray h t = true) : hIsThing h t = true := by
  simp only [hIsArray, Bool.and_eq_true] at ht
  exact ht.1
theorem hHasEl_arr {h : SH} {t i : Int32} (ht : hHasEl h t i = true) : hIsArray h t = true := by
  simp only [hHasEl, Bool.and_eq_true] at ht
  exact ht.1
theorem hArr_rng {h : SH} {t : Int32} (hh : hOK h) (ht : hIsArray h t = true) : 0 ≤ (hSt h (ix t)).toInt ∧ 0 ≤ (hLe h (ix t)).toInt ∧ (hSt h (ix t)).toInt + (hLe h (ix t)).toInt ≤ (hEl h).toInt := by
  simp only [hIsArray, Bool.and_eq_true, Bool.not_eq_true', decide_eq_false_iff_not] at ht
  have h1 := hIsThing_rng ht.1
  exact hh.2.2.2.2 (ix t) (by rw [ix_eq]; omega) ht.2
theorem hHasEl_rng {h : SH} {t i : Int32} (ht : hHasEl h t i = true) : 0 ≤ i.toInt ∧ i.toInt < (hLe h (ix t)).toInt := by
  simp only [hHasEl, Bool.and_eq_true, Bool.not_eq_true', decide_eq_false_iff_not] at ht
  exact ⟨by simpa using i_not_lt ht.2.1, i_not_le ht.2.2⟩
theorem hCell_int {h : SH} {t i : Int32} (hh : hOK h) (ht : hHasEl h t i = true) : (hSt h (ix t) + i).toInt = (hSt h (ix t)).toInt + i.toInt := by
  have h1 := hArr_rng hh (hHasEl_arr ht)
  have h2 := hHasEl_rng ht
  have h3 := hh.2.2.2.1
  exact i_add (by omega) (by omega)
theorem hCell_in {h : SH} {t i : Int32} (hh : hOK h) (ht : hHasEl h t i = true) : vp_in (hSt h (ix t) + i) 4000 := by
  have h1 := hArr_rng hh (hHasEl_arr ht)
  have h2 := hHasEl_rng ht
  have h3 := hh.2.2.2.1
  refine vp_in_iff.mpr ⟨?_, ?_⟩ <;> rw [hCell_int hh ht] <;> omega
set_option maxRecDepth 100000 in
set_option maxHeartbeats 1000000 in
theorem s_isThing {D : Nat} (hD : 1 ≤ D) {P : SP} {S : SS} {Q : xQ} (t : Int32) (h : Q (some (.int (bI (hIsThing S.1 t)))) (wC P S)) : Cd D 0 [.ref 2, .int t] (wC P S) Q := by
  refine Cd.up hD ?_
  refine Cd.mk cdX2_isThing 2 0 1 [(0, .ref 2), (1, .int t)] rfl rfl rfl rfl 1000 ?_
  unfold hIsThing at h
  refine And.intro (fun h1 => ?_) (fun h1 => ?_)
  · refine And.intro (Or.inl rfl) ?_
    simpa [bI, h1] using h
  · refine And.intro (fun h2 => ?_) (fun h2 => ?_)
    · refine And.intro (Or.inl rfl) ?_
      simpa [bI, h1, h2] using h
    · refine And.intro (Or.inr rfl) ?_
      simpa [bI, h1, h2] using h
set_option maxRecDepth 100000 in
set_option maxHeartbeats 1000000 in
theorem s_isArray {D : Nat} (hD : 2 ≤ D) {P : SP} {S : SS} {Q : xQ} (hh : hOK S.1) (t : Int32) (h : Q (some (.int (bI (hIsArray S.1 t)))) (wC P S)) : Cd D 1 [.ref 2, .int t] (wC P S) Q := by
  refine Cd.up hD ?_
  refine Cd.mk cdX2_isArray 2 0 1 [(0, .ref 2), (1, .int t)] rfl rfl rfl rfl 1000 ?_
  unfold hIsArray hIsThing at h
  refine And.intro (fun h1 => ?_) (fun h1 => ?_)
  · refine And.intro (Or.inl rfl) ?_
    simpa [bI, h1] using h
  · refine And.intro (fun h2 => ?_) (fun h2 => ?_)
    · refine And.intro (Or.inl rfl) ?_
      simpa [bI, h1, h2] using h
    · have h12 : hIsThing S.1 t = true := by
        have h2 : ¬ hTh S.1 ≤ t := h2
        simp [hIsThing, h1, h2]
      refine And.intro (hIsThing_in hh h12) ?_
      refine And.intro (fun h3 => ?_) (fun h3 => ?_)
      · refine And.intro (Or.inl rfl) ?_
        simpa [bI, h1, h2, h3] using h
      · refine And.intro (Or.inr rfl) ?_
        simpa [bI, h1, h2, h3] using h
set_option maxRecDepth 100000 in
set_option maxHeartbeats 1000000 in
theorem s_hasElement {D : Nat} (hD : 3 ≤ D) {P : SP} {S : SS} {Q : xQ} (hh : hOK S.1) (t i : Int32) (h : Q (some (.int (bI (hHasEl S.1 t i)))) (wC P S)) : Cd D 2 [.ref 2, .int t, .int i] (wC P S) Q := by
  refine Cd.up hD ?_
  refine Cd.mk cdX2_hasElement 3 0 2 [(0, .ref 2), (1, .int t), (2, .int i)] rfl rfl rfl rfl 1000 ?_
  unfold hHasEl at h
  refine s_isArray (by decide) hh t ?_
  refine And.intro (fun h1 => ?_) (fun h1 => ?_)
  · have h1 := bI_0 h1
    refine And.intro (Or.inl rfl) ?_
    simpa [bI, h1] using h
  · have h1 := bI_1 h1
    refine And.intro (fun h2 => ?_) (fun h2 => ?_)
    · refine And.intro (Or.inl rfl) ?_
      simpa [bI, h1, h2] using h
    · refine And.intro (hIsThing_in hh (hIsArray_thing h1)) ?_
      refine And.intro (fun h3 => ?_) (fun h3 => ?_)
      · refine And.intro (Or.inl rfl) ?_
        simpa [bI, h1, h2, h3] using h
      · refine And.intro (Or.inr rfl) ?_
        simpa [bI, h1, h2, h3] using h
set_option maxRecDepth 100000 in
set_option maxHeartbeats 1000000 in
theorem s_typeOf {D : Nat} (hD : 2 ≤ D) {P : SP} {S : SS} {Q : xQ} (hh : hOK S.1) (t : Int32) (h : Q (some (.int (hTypeOf S.1 t))) (wC P S)) : Cd D 3 [.ref 2, .int t] (wC P S) Q := by
  refine Cd.up hD ?_
  refine Cd.mk cdX2_typeOf 2 0 1 [(0, .ref 2), (1, .int t)] rfl rfl rfl rfl 1000 ?_
  unfold hTypeOf at h
  refine s_isThing (by decide) t ?_
  refine And.intro (fun h1 => ?_) (fun h1 => ?_)
  · have h1 := bI_0 h1
    show Q _ _
    simpa [h1] using h
  · have h1 := bI_1 h1
    refine And.intro (hIsThing_in hh h1) ?_
    show Q _ _
    simpa [h1] using h
set_option maxRecDepth 100000 in
set_option maxHeartbeats 1000000 in
theorem s_lengthOf {D : Nat} (hD : 2 ≤ D) {P : SP} {S : SS} {Q : xQ} (hh : hOK S.1) (t : Int32) (h : Q (some (.int (hLenOf S.1 t))) (wC P S)) : Cd D 4 [.ref 2, .int t] (wC P S) Q := by
  refine Cd.up hD ?_
  refine Cd.mk cdX2_lengthOf 2 0 1 [(0, .ref 2), (1, .int t)] rfl rfl rfl rfl 1000 ?_
  unfold hLenOf at h
  refine s_isThing (by decide) t ?_
  refine And.intro (fun h1 => ?_) (fun h1 => ?_)
  · have h1 := bI_0 h1
    show Q _ _
    simpa [h1] using h
  · have h1 := bI_1 h1
    refine And.intro (hIsThing_in hh h1) ?_
    show Q _ _
    simpa [h1] using h
set_option maxRecDepth 100000 in
set_option maxHeartbeats 1000000 in
theorem s_typeOfElements {D : Nat} (hD : 3 ≤ D) {P : SP} {S : SS} {Q : xQ} (hh : hOK S.1) (t : Int32) (h : Q (some (.int (hTyEl S.1 t))) (wC P S)) : Cd D 5 [.ref 2, .int t] (wC P S) Q := by
  refine Cd.up hD ?_
  refine Cd.mk cdX2_typeOfElements 2 0 1 [(0, .ref 2), (1, .int t)] rfl rfl rfl rfl 1000 ?_
  unfold hTyEl at h
  refine s_isArray (by decide) hh t ?_
  refine And.intro (fun h1 => ?_) (fun h1 => ?_)
  · have h1 := bI_0 h1
    show Q _ _
    simpa [h1] using h
  · have h1 := bI_1 h1
    refine And.intro (hIsThing_in hh (hIsArray_thing h1)) ?_
    show Q _ _
    simpa [h1] using h
set_option maxRecDepth 100000 in
set_option maxHeartbeats 1000000 in
theorem s_holdsNumbers {D : Nat} (hD : 4 ≤ D) {P : SP} {S : SS} {Q : xQ} (hh : hOK S.1) (t : Int32) (h : Q (some (.int (bI (hNums S.1 t)))) (wC P S)) : Cd D 6 [.ref 2, .int t] (wC P S) Q := by
  refine Cd.up hD ?_
  refine Cd.mk cdX2_holdsNumbers 2 0 1 [(0, .ref 2), (1, .int t)] rfl rfl rfl rfl 1000 ?_
  refine s_typeOfElements (by decide) hh t ?_
  refine s_isOfNumbers (by decide) _ ?_
  refine And.intro (bI01 _) ?_
  exact h
set_option maxRecDepth 100000 in
set_option maxHeartbeats 1000000 in
theorem s_amountAt {D : Nat} (hD : 4 ≤ D) {P : SP} {S : SS} {Q : xQ} (hh : hOK S.1) (t i : Int32) (h : Q (some (.long (hAmAt S.1 t i))) (wC P S)) : Cd D 8 [.ref 2, .int t, .int i] (wC P S) Q := by
  refine Cd.up hD ?_
  refine Cd.mk cdX2_amountAt 3 0 2 [(0, .ref 2), (1, .int t), (2, .int i)] rfl rfl rfl rfl 1000 ?_
  unfold hAmAt at h
  refine s_hasElement (by decide) hh t i ?_
  refine And.intro (fun h1 => ?_) (fun h1 => ?_)
  · have h1 := bI_0 h1
    show Q _ _
    simpa [h1] using h
  · have h1 := bI_1 h1
    refine And.intro (hIsThing_in hh (hIsArray_thing (hHasEl_arr h1))) ?_
    refine And.intro (hCell_in hh h1) ?_
    show Q _ _
    simpa [h1] using h
set_option maxRecDepth 100000 in
set_option maxHeartbeats 1000000 in
theorem s_realAt {D : Nat} (hD : 4 ≤ D) {P : SP} {S : SS} {Q : xQ} (hh : hOK S.1) (t i : Int32) (h : Q (some (.double (hReAt S.1 t i))) (wC P S)) : Cd D 9 [.ref 2, .int t, .int i] (wC P S) Q := by
  refine Cd.up hD ?_
  refine Cd.mk cdX2_realAt 3 0 2 [(0, .ref 2), (1, .int t), (2, .int i)] rfl rfl rfl rfl 1000 ?_
  unfold hReAt at h
  refine s_hasElement (by decide) hh t i ?_
  refine And.intro (fun h1 => ?_) (fun h1 => ?_)
  · have h1 := bI_0 h1
    show Q _ _
    simpa [h1] using h
  · have h1 := bI_1 h1
    refine And.intro (hIsThing_in hh (hIsArray_thing (hHasEl_arr h1))) ?_
    refine And.intro (hCell_in hh h1) ?_
    show Q _ _
    simpa [h1] using h
set_option maxRecDepth 100000 in
set_option maxHeartbeats 1000000 in
theorem s_kindAt {D : Nat} (hD : 5 ≤ D) {P : SP} {S : SS} {Q : xQ} (hh : hOK S.1) (t i : Int32) (h : Q (some (.int (hKindAt S.1 t i))) (wC P S)) : Cd D 7 [.ref 2, .int t, .int i] (wC P S) Q := by
  refine Cd.up hD ?_
  refine Cd.mk cdX2_kindAt 3 0 2 [(0, .ref 2), (1, .int t), (2, .int i)] rfl rfl rfl rfl 1000 ?_
  unfold hKindAt at h
  refine s_typeOfElements (by decide) hh t ?_
  refine s_isOfNumbers (by decide) _ ?_
  refine And.intro (fun h1 => ?_) (fun h1 => ?_)
  · have h1 : hNums S.1 t = false := bI_0 h1
    refine s_amountAt (by decide) hh t i ?_
    refine And.intro (fun h2 => ?_) (fun h2 => ?_)
    · rw [lc_0] at h2
      show Q _ _
      simpa [h1, h2] using h
    · rw [lc_0] at h2
      show Q _ _
      simpa [h1, h2] using h
  · have h1 : hNums S.1 t = true := bI_1 h1
    show Q _ _
    simpa [h1] using h
/-- how many of the first n elements are things -/
def hCount (h : SH) (t : Int32) : Nat → Nat
  | 0 => 0
  | n + 1 => hCount h t n + (bif decide (hKindAt h t (nI n) = 2) then 1 else 0)
set_option maxRecDepth 100000 in
set_option maxHeartbeats 1000000 in
theorem s_thingsIn_loop {d : Nat} (hd : 5 ≤ d) {P : SP} {S : SS} {Q : xQ} (hh : hOK S.1) (t : Int32) (L : Nat) (hL : L < 2 ^ 31) (hlen : hLenOf S.1 t = nI L) (h : Q (some (.int (nI (hCount S.1 t L)))) (wC P S)) : ∀ (n i : Nat), i + n = L → Ev (Cd d) cdX2_thingsIn Q 4 [(0, .ref 2), (1, .int t), (2, .int (nI (hCount S.1 t i))), (3, .int (nI i))] [] (wC P S)
  | 0, i, hi => by
    have hi : i = L := by omega
    subst hi
    refine Ev.go (Cd.mono d) [4] 100 ?_
    refine s_lengthOf (by omega) hh t ?_
    refine And.intro (fun _ => ?_) (fun h1 => absurd (by rw [hlen]; exact Int32.le_refl _) h1)
    exact h
  | n + 1, i, hi => by
    refine Ev.go (Cd.mono d) [4] 100 ?_
    refine s_lengthOf (by omega) hh t ?_
    refine And.intro (fun h1 => ?_) (fun _ => ?_)
    · rw [hlen] at h1
      exact absurd h1 (nI_ge (by omega) hL)
    have ih := s_thingsIn_loop hd hh t L hL hlen h n (i + 1) (by omega)
    rw [← nI_1, hCount] at ih
    refine s_kindAt (by omega) hh t _ ?_
    refine And.intro (fun h2 => ?_) (fun h2 => ?_)
    · simp only [h2, decide_false, cond_false, Nat.add_zero] at ih
      exact ih
    · simp only [h2, decide_true, cond_true, ← nI_1] at ih
      exact ih
set_option maxRecDepth 100000 in
set_option maxHeartbeats 1000000 in
theorem s_thingsIn {D : Nat} (hD : 6 ≤ D) {P : SP} {S : SS} {Q : xQ} (hh : hOK S.1) (t : Int32) (h : Q (some (.int (nI (hCount S.1 t (ix (hLenOf S.1 t)))))) (wC P S)) : Cd D 11 [.ref 2, .int t] (wC P S) Q := by
  refine Cd.up hD ?_
  refine Cd.mk cdX2_thingsIn 4 0 1 [(0, .ref 2), (1, .int t)] rfl rfl rfl rfl 0 ?_
  refine Ev.go (Cd.mono 5) [4] 100 ?_
  by_cases h0 : hLenOf S.1 t < 0
  · have e : ix (hLenOf S.1 t) = 0 := by
      have := i_lt h0
      rw [ix_eq]
      have h2 : (0 : Int32).toInt = 0 := rfl
      omega
    rw [e] at h
    show Ev _ _ _ _ _ _ _
    refine Ev.go (Cd.mono 5) [4] 100 ?_
    refine s_lengthOf (by omega) hh t ?_
    refine And.intro (fun _ => ?_) (fun h1 => ?_)
    · exact h
    · exact absurd (Int32.le_of_lt h0) h1
  · obtain ⟨L, hL, e⟩ := nI_of h0
    have e2 : ix (hLenOf S.1 t) = L := by rw [e]; exact nI_clamp hL
    rw [e2] at h
    exact s_thingsIn_loop (by omega) hh t L hL e h L 0 (by omega)
