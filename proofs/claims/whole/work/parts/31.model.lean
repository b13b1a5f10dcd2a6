/-! THE REFERENCE's state: what it shares with the class (P, S: program, heap, amounts of variables, trace, held amounts, counters), and its own: ref, came, isRef, heldRef; the pile; its rows for moves -/
abbrev MR : Type := Int32 × Int64 × (Nat → Int32) × (Nat → Int32)
abbrev MP : Type := Int32 × (Nat → Int32) × (Nat → Int32) × (Nat → Int32) × (Nat → Int32) × (Nat → Int64) × (Nat → Int64) × (Nat → Int64) × (Nat → Int64) × (Nat → UInt64) × (Nat → Int32)
abbrev MB : Type := (Nat → Int64) × (Nat → UInt64)
abbrev MS : Type := MR × MP × MB
abbrev mRef (m : MS) : Int32 := m.1.1
abbrev mCame (m : MS) : Int64 := m.1.2.1
abbrev mIsRef (m : MS) : Nat → Int32 := m.1.2.2.1
abbrev mHRef (m : MS) : Nat → Int32 := m.1.2.2.2
abbrev mDeep (m : MS) : Int32 := m.2.1.1
abbrev mAt (m : MS) : Nat → Int32 := m.2.1.2.1
abbrev mStage (m : MS) : Nat → Int32 := m.2.1.2.2.1
abbrev mIndex (m : MS) : Nat → Int32 := m.2.1.2.2.2.1
abbrev mFRef (m : MS) : Nat → Int32 := m.2.1.2.2.2.2.1
abbrev mFirst (m : MS) : Nat → Int64 := m.2.1.2.2.2.2.2.1
abbrev mSecond (m : MS) : Nat → Int64 := m.2.1.2.2.2.2.2.2.1
abbrev mThird (m : MS) : Nat → Int64 := m.2.1.2.2.2.2.2.2.2.1
abbrev mFourth (m : MS) : Nat → Int64 := m.2.1.2.2.2.2.2.2.2.2.1
abbrev mReal (m : MS) : Nat → UInt64 := m.2.1.2.2.2.2.2.2.2.2.2.1
abbrev mBase (m : MS) : Nat → Int32 := m.2.1.2.2.2.2.2.2.2.2.2.2
abbrev mMoved (m : MS) : Nat → Int64 := m.2.2.1
abbrev mMovedR (m : MS) : Nat → UInt64 := m.2.2.2
def wM (P : SP) (S : SS) (m : MS) : xW :=
  [.inr (4, [.int (pN P), .ref 1, .ref 2, .ref 3, .ref 4, .ref 5, .int (hTh S.1), .ref 6, .ref 7, .ref 8, .int (hEl S.1), .ref 9, .ref 10, .ref 11, .ref 12, .int (mDeep m), .ref 13, .ref 14, .ref 15, .ref 16, .ref 17, .ref 18, .ref 19, .ref 20, .ref 21, .ref 22, .int (vH S.2.1), .ref 23, .ref 24, .int (mRef m), .long (mCame m), .int (rF S.2.2), .int (rC S.2.2), .int (rW S.2.2), .int (rN S.2.2), .int (rT S.2.2), .ref 25, .ref 26, .ref 27]),
   .inl (0, 80, .inl (pC P)), .inl (0, 80, .inl (pa P)), .inl (0, 80, .inl (pb P)), .inl (0, 80, .inl (pc' P)), .inl (0, 80, .inl (pd P)),
   .inl (0, 400, .inl (hTy S.1)), .inl (0, 400, .inl (hLe S.1)), .inl (0, 400, .inl (hSt S.1)), .inl (1, 4000, .inr (.inl (hAm S.1))), .inl (2, 4000, .inr (.inr (.inr (.inl (hRe S.1))))),
   .inl (3, 8, .inl (mIsRef m)), .inl (1, 8, .inr (.inl (vA S.2.1))),
   .inl (0, 100, .inl (mAt m)), .inl (0, 100, .inl (mStage m)), .inl (0, 100, .inl (mIndex m)), .inl (3, 100, .inl (mFRef m)), .inl (1, 100, .inr (.inl (mFirst m))), .inl (1, 100, .inr (.inl (mSecond m))), .inl (1, 100, .inr (.inl (mThird m))), .inl (1, 100, .inr (.inl (mFourth m))), .inl (2, 100, .inr (.inr (.inr (.inl (mReal m))))), .inl (0, 100, .inl (mBase m)),
   .inl (3, 8000, .inl (mHRef m)), .inl (1, 8000, .inr (.inl (vHA S.2.1))), .inl (0, 256, .inl (vT S.2.1)), .inl (1, 4000, .inr (.inl (mMoved m))), .inl (2, 4000, .inr (.inr (.inr (.inl (mMovedR m)))))]
/-! its statics -/
def lIn (v a b : Int64) : Bool := !decide (v < a) && !decide (b < v)
set_option maxRecDepth 100000 in
set_option maxHeartbeats 1000000 in
theorem m_in {D : Nat} (hD : 1 ≤ D) {w : xW} {Q : xQ} (v a b : Int64) (h : Q (some (.int (bI (lIn v a b)))) w) : Cd D 96 [.long v, .long a, .long b] w Q := by
  refine Cd.up hD ?_
  refine Cd.mk cdX8_in 6 99 3 [(0, .long v), (2, .long a), (4, .long b)] rfl rfl rfl rfl 100 ?_
  unfold lIn at h
  refine And.intro (fun h1 => ?_) (fun h1 => ?_)
  · rw [lc_lt] at h1
    rw [decide_eq_true h1] at h
    refine And.intro (Or.inl rfl) ?_
    exact h
  · rw [lc_lt] at h1
    rw [decide_eq_false h1] at h
    refine And.intro (fun h2 => ?_) (fun h2 => ?_)
    · rw [lc_gt] at h2
      rw [decide_eq_true h2] at h
      refine And.intro (Or.inl rfl) ?_
      exact h
    · rw [lc_gt] at h2
      rw [decide_eq_false h2] at h
      refine And.intro (Or.inr rfl) ?_
      exact h
theorem lIn_i {v a b : Int32} : lIn v.toInt64 a.toInt64 b.toInt64 = (!decide (v < a) && !decide (b < v)) := by
  unfold lIn
  have e1 : (v.toInt64 < a.toInt64) ↔ (v < a) := by rw [Int64.lt_iff_toInt_lt, i64_of, i64_of, Int32.lt_iff_toInt_lt]
  have e2 : (b.toInt64 < v.toInt64) ↔ (b < v) := by rw [Int64.lt_iff_toInt_lt, i64_of, i64_of, Int32.lt_iff_toInt_lt]
  rw [decide_eq_decide.mpr e1, decide_eq_decide.mpr e2]
set_option maxRecDepth 100000 in
set_option maxHeartbeats 1000000 in
theorem m_isNumbers {D : Nat} (hD : 1 ≤ D) {w : xW} {Q : xQ} (t : Int32) (h : Q (some (.int (bI (!decide (8 ≤ t))))) w) : Cd D 98 [.int t] w Q := by
  refine Cd.up hD ?_
  refine Cd.mk cdX8_isNumbers 1 99 1 [(0, .int t)] rfl rfl rfl rfl 100 ?_
  refine And.intro (fun h1 => ?_) (fun h1 => ?_)
  · rw [decide_eq_true h1] at h
    refine And.intro (Or.inl rfl) ?_
    exact h
  · rw [decide_eq_false h1] at h
    refine And.intro (Or.inr rfl) ?_
    exact h
theorem tType_eq {t : Int32} (h : ¬ t < 0) : (decide (11 < t &&& 15) = decide (11 < t - t / 16 * 16)) ∧ (decide (3 < t >>> ((4 : Int32) &&& 31)) = decide (64 ≤ t)) := by
  obtain ⟨n, hn, rfl⟩ := nI_of h
  have e1 : nI n &&& 15 = nI (n % 2 ^ 4) := pk_andN (by omega) 4 (by decide)
  have e2 : nI n - nI n / 16 * 16 = nI (n % 16) := by
    have := pk_rem (a := n) (d := 16) hn (by decide) (by decide)
    exact this
  have e3 : nI n >>> ((4 : Int32) &&& 31) = nI (n / 2 ^ 4) := pk_shrN hn _ 4 (by decide)
  refine ⟨?_, ?_⟩
  · rw [e1, e2]
  · rw [e3]
    rw [decide_eq_decide]
    rw [show (3 : Int32) = nI 3 from rfl, show (64 : Int32) = nI 64 from rfl, nI_ltI (by decide) (by omega), nI_leI (by decide) hn]
    omega
set_option maxRecDepth 100000 in
set_option maxHeartbeats 1000000 in
theorem m_isType {D : Nat} (hD : 1 ≤ D) {w : xW} {Q : xQ} (t : Int32) (h : Q (some (.int (bI (tIsType t)))) w) : Cd D 97 [.int t] w Q := by
  refine Cd.up hD ?_
  refine Cd.mk cdX8_isType 1 99 1 [(0, .int t)] rfl rfl rfl rfl 100 ?_
  unfold tIsType at h
  refine And.intro (fun h1 => ?_) (fun h1 => ?_)
  · rw [decide_eq_true h1] at h
    refine And.intro (Or.inl rfl) ?_
    exact h
  · rw [decide_eq_false h1] at h
    obtain ⟨e1, e2⟩ := tType_eq h1
    rw [← e1, ← e2] at h
    refine And.intro (fun h2 => ?_) (fun h2 => ?_)
    · rw [decide_eq_true h2] at h
      refine And.intro (Or.inl rfl) ?_
      simpa [bI] using h
    · rw [decide_eq_false h2] at h
      refine And.intro (fun h3 => ?_) (fun h3 => ?_)
      · rw [decide_eq_true h3] at h
        refine And.intro (Or.inl rfl) ?_
        exact h
      · rw [decide_eq_false h3] at h
        refine And.intro (Or.inr rfl) ?_
        exact h
set_option maxRecDepth 100000 in
set_option maxHeartbeats 1000000 in
theorem m_isRows {D : Nat} (hD : 2 ≤ D) {w : xW} {Q : xQ} (t : Int32) (h : Q (some (.int (bI (tIsArr t)))) w) : Cd D 107 [.int t] w Q := by
  refine Cd.up hD ?_
  refine Cd.mk cdX8_isRows 1 99 1 [(0, .int t)] rfl rfl rfl rfl 100 ?_
  unfold tIsArr at h
  refine m_isType (by decide) t ?_
  have e : (t ≤ 15) ↔ (t < 16) := by
    rw [Int32.le_iff_toInt_le, Int32.lt_iff_toInt_lt]
    have e1 : (15 : Int32).toInt = 15 := rfl
    have e2 : (16 : Int32).toInt = 16 := rfl
    omega
  refine And.intro (fun h1 => ?_) (fun h1 => ?_)
  · rw [bI_eq0] at h1
    rw [h1] at h
    refine And.intro (Or.inl rfl) ?_
    exact h
  · rw [bI_ne0] at h1
    rw [h1] at h
    refine And.intro (fun h2 => ?_) (fun h2 => ?_)
    · rw [decide_eq_true (e.mp h2)] at h
      refine And.intro (Or.inl rfl) ?_
      exact h
    · rw [decide_eq_false (fun z => h2 (e.mpr z))] at h
      refine And.intro (Or.inr rfl) ?_
      exact h
set_option maxRecDepth 100000 in
set_option maxHeartbeats 1000000 in
theorem m_isVariable {D : Nat} (hD : 2 ≤ D) {w : xW} {Q : xQ} (v : Int32) (h : Q (some (.int (bI (isVar v)))) w) : Cd D 106 [.int v] w Q := by
  refine Cd.up hD ?_
  refine Cd.mk cdX8_isVariable 1 99 1 [(0, .int v)] rfl rfl rfl rfl 100 ?_
  refine m_in (by decide) _ _ _ ?_
  refine And.intro (bI01 _) ?_
  have e : lIn v.toInt64 0 7 = isVar v := by
    have e1 : lIn v.toInt64 (0 : Int32).toInt64 (7 : Int32).toInt64 = (!decide (v < 0) && !decide (7 < v)) := lIn_i
    have e2 : (7 < v) ↔ (8 ≤ v) := by
      rw [Int32.le_iff_toInt_le, Int32.lt_iff_toInt_lt]
      have e1 : (7 : Int32).toInt = 7 := rfl
      have e2 : (8 : Int32).toInt = 8 := rfl
      omega
    rw [decide_eq_decide.mpr e2] at e1
    exact e1
  rw [← e] at h
  exact h
set_option maxRecDepth 100000 in
set_option maxHeartbeats 1000000 in
theorem m_isNode {D : Nat} (hD : 2 ≤ D) {P : SP} {S : SS} {m : MS} {Q : xQ} (hp : pOK P) (n : Int32) (h : Q (some (.int (bI (pIsNode P n)))) (wM P S m)) : Cd D 104 [.ref 0, .int n] (wM P S m) Q := by
  refine Cd.up hD ?_
  refine Cd.mk cdX8_isNode 2 4 1 [(0, .ref 0), (1, .int n)] rfl rfl rfl rfl 100 ?_
  refine m_in (by decide) _ _ _ ?_
  refine And.intro (bI01 _) ?_
  have e : lIn n.toInt64 0 (pN P - 1).toInt64 = pIsNode P n := by
    have e1 : lIn n.toInt64 (0 : Int32).toInt64 (pN P - 1).toInt64 = (!decide (n < 0) && !decide (pN P - 1 < n)) := lIn_i
    have e2 : (pN P - 1 < n) ↔ (pN P ≤ n) := by
      have e3 : (1 : Int32).toInt = 1 := rfl
      have := hp.1
      have := hp.2
      rw [Int32.le_iff_toInt_le, Int32.lt_iff_toInt_lt, i_sub (by omega) (by omega)]
      omega
    rw [decide_eq_decide.mpr e2] at e1
    exact e1
  rw [← e] at h
  exact h
set_option maxRecDepth 100000 in
set_option maxHeartbeats 1000000 in
theorem m_isList {D : Nat} (hD : 3 ≤ D) {P : SP} {S : SS} {m : MS} {Q : xQ} (hp : pOK P) (n : Int32) (h : Q (some (.int (bI (pIsLN P n)))) (wM P S m)) : Cd D 105 [.ref 0, .int n] (wM P S m) Q := by
  refine Cd.up hD ?_
  refine Cd.mk cdX8_isList 2 4 1 [(0, .ref 0), (1, .int n)] rfl rfl rfl rfl 100 ?_
  unfold pIsLN pIsList at h
  refine And.intro (fun h1 => ?_) (fun h1 => ?_)
  · rw [decide_eq_true h1] at h
    refine And.intro (Or.inr rfl) ?_
    exact h
  · rw [decide_eq_false h1] at h
    refine m_isNode (by decide) hp n ?_
    refine And.intro (fun h2 => ?_) (fun h2 => ?_)
    · rw [bI_eq0] at h2
      rw [h2] at h
      refine And.intro (Or.inl rfl) ?_
      exact h
    · rw [bI_ne0] at h2
      rw [h2] at h
      refine And.intro (pIsNode_in hp h2) ?_
      refine And.intro (fun h3 => ?_) (fun h3 => ?_)
      · rw [decide_eq_false h3] at h
        refine And.intro (Or.inl rfl) ?_
        exact h
      · rw [decide_eq_true h3] at h
        refine And.intro (Or.inr rfl) ?_
        exact h
