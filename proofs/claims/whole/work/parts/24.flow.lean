/-- what the class's walk asks of an invariant J (of states), V (of those in which a value stands) -/
def JO (P : SP) (J V : Int → SS → Prop) : Prop :=
  (∀ k S, J k S → hOK S.1 ∧ (0 ≤ (vH S.2.1).toInt ∧ (vH S.2.1).toInt ≤ 1600) ∧ 0 ≤ (rT S.2.2).toInt) ∧
  (∀ k S, V k S → J k S) ∧
  (∀ k S, J k S → rN S.2.2 < 3000 → J (k - 1) (sWork S)) ∧
  (∀ k S a, J k S → rN S.2.2 < 3000 → J (k - 1) (sNote (sWork S) a)) ∧
  (∀ k S n, J k S → (oTake P S n).1 = true → J k (oTake P S n).2) ∧
  (∀ k S n, J k S → pIsNode P n = true → pC P (ix n) = 11 → ¬ (hMA S.1 (pa P (ix n)) (pLen P (pb P (ix n)))).1 = -1 → J k ((hMA S.1 (pa P (ix n)) (pLen P (pb P (ix n)))).2, S.2)) ∧
  (∀ k S n t i, V k S → (oPut S n t i).1 = true → J k (oPut S n t i).2) ∧
  (∀ k S n, V k S → (oHold S n).1 = true → J k (oHold S n).2) ∧
  (∀ k S v t i, J k S → hHasEl S.1 t i = true → J k (sVar S v (hKindAt S.1 t i) (hAmAt S.1 t i))) ∧
  (∀ k S, J k S → ∀ (j : Nat) (m : Int64), fOK6 (hRe S.1 j) m ∧ fOK7 (hRe S.1 j) m) ∧
  (∀ m : Int64, fOK6 FP.dconst0 m ∧ fOK7 FP.dconst0 m)
def CX (P : SP) (E : Int32 → SS → SO) (J V : Int → SS → Prop) (d : Nat) (dep : Int32) : Prop :=
  pOK P ∧ fOK1 ∧ JO P J V ∧ (∀ k n S, J k S → J k (E n S).2 ∧ ((E n S).1 = true → V k (E n S).2)) ∧
  ∀ k n S (Q : xQ), J k S → Q (some (.int (bI (E n S).1))) (wC P (E n S).2) → Cd d 48 [.ref 3, .int n, .int (dep + 1)] (wC P S) Q
section FLOW
variable {P : SP} {E : Int32 → SS → SO} {J V : Int → SS → Prop} {d : Nat} {dep : Int32}
theorem CX.call (cx : CX P E J V d dep) {k : Int} {n : Int32} {S : SS} {Q : xQ} (hJ : J k S) (h : Q (some (.int (bI (E n S).1))) (wC P (E n S).2)) : Cd d 48 [.ref 3, .int n, .int (dep + 1)] (wC P S) Q := cx.2.2.2.2 k n S Q hJ h
theorem CX.pre (cx : CX P E J V d dep) {k : Int} {n : Int32} {S : SS} (hJ : J k S) : J k (E n S).2 := (cx.2.2.2.1 k n S hJ).1
theorem CX.val (cx : CX P E J V d dep) {k : Int} {n : Int32} {S : SS} (hJ : J k S) (h : (E n S).1 = true) : V k (E n S).2 := (cx.2.2.2.1 k n S hJ).2 h
theorem CX.ok (cx : CX P E J V d dep) {k : Int} {S : SS} (hJ : J k S) : hOK S.1 := (cx.2.2.1.1 k S hJ).1
theorem CX.held (cx : CX P E J V d dep) {k : Int} {S : SS} (hJ : J k S) : 0 ≤ (vH S.2.1).toInt ∧ (vH S.2.1).toInt ≤ 1600 := (cx.2.2.1.1 k S hJ).2.1
theorem CX.noted (cx : CX P E J V d dep) {k : Int} {S : SS} (hJ : J k S) : 0 ≤ (rT S.2.2).toInt := (cx.2.2.1.1 k S hJ).2.2
theorem CX.take (cx : CX P E J V d dep) {k : Int} {S : SS} {n : Int32} (hJ : J k S) (h : (oTake P S n).1 = true) : J k (oTake P S n).2 := cx.2.2.1.2.2.2.2.1 k S n hJ h
theorem CX.node_in (cx : CX P E J V d dep) {n : Int32} (hn : pIsNode P n = true) : vp_in n 80 := pIsNode_in cx.1 hn
theorem oNum_same {S : SS} {n : Int32} (h : (oNum S n).1 = true) : (oNum S n).2 = S := by
  unfold oNum at h ⊢
  cases hz : decide (rK S.2.2 = 0)
  · rw [hz] at h; cases h
  · rfl
theorem oRef_same {S : SS} {n : Int32} (h : (oRef S n).1 = true) : (oRef S n).2 = S := by
  unfold oRef at h ⊢
  cases hz : decide (rK S.2.2 = 0)
  · rfl
  · rw [hz] at h; cases h
theorem oArr_same {S : SS} {n : Int32} (h : (oArr S n).1 = true) : (oArr S n).2 = S := by
  unfold oArr at h ⊢
  cases hz : (decide (rK S.2.2 = 1) || (decide (rK S.2.2 = 2) && hIsArray S.1 (rA S.2.2).toInt32))
  · rw [hz] at h; cases h
  · rfl
theorem oEl_same {S : SS} {n t i : Int32} (h : (oEl S n t i).1 = true) : (oEl S n t i).2 = S := by
  unfold oEl at h ⊢
  cases hz : decide (t = -1)
  · rw [hz] at h
    simp only [cond_false] at h ⊢
    cases hy : hHasEl S.1 t i
    · rw [hy] at h; cases h
    · rfl
  · rw [hz] at h; cases h
theorem oAdd_same {S : SS} {n t : Int32} (h : (oAdd S n t).1 = true) : (oAdd S n t).2 = S := by
  unfold oAdd at h ⊢
  cases hz : (hNums S.1 t && !decide (hTyEl S.1 t = 0))
  · rw [hz] at h; cases h
  · rfl
set_option maxRecDepth 100000 in
set_option maxHeartbeats 1000000 in
theorem s_flow3 (hd : 8 ≤ d) (cx : CX P E J V d dep) {k : Int} {S : SS} {Q : xQ} (hJ : J k S) (n : Int32) (hn : pIsNode P n = true) (h : Q (some (.int (bI (oAnd (E (pb P (ix n)) S) (fun S => (true, sVar S (pa P (ix n)) (rK S.2.2) (rA S.2.2)))).1))) (wC P (oAnd (E (pb P (ix n)) S) (fun S => (true, sVar S (pa P (ix n)) (rK S.2.2) (rA S.2.2)))).2)) : Ev (Cd d) cdX6_workFlow Q 116 [(0, .ref 3), (1, .int n), (2, .int dep)] [] (wC P S) := by
  refine Ev.go (Cd.mono d) [] 100 ?_
  refine And.intro (cx.node_in hn) ?_
  refine cx.call hJ ?_
  unfold oAnd at h
  refine And.intro (fun h1 => ?_) (fun h1 => ?_)
  · rw [bI_eq0] at h1
    simp only [h1, cond_false] at h
    refine And.intro (Or.inl rfl) ?_
    exact h
  · rw [bI_ne0] at h1
    simp only [h1, cond_true] at h
    refine And.intro (cx.node_in hn) ?_
    refine s_setVariable (by omega) _ _ _ ?_
    refine And.intro (fun h3 => absurd h3 (by decide)) (fun _ => ?_)
    refine And.intro (Or.inr rfl) ?_
    exact h
set_option maxRecDepth 100000 in
set_option maxHeartbeats 1000000 in
theorem s_flow4 (hd : 8 ≤ d) (cx : CX P E J V d dep) {k : Int} {S : SS} {Q : xQ} (hJ : J k S) (n : Int32) (hN : J k (sNote S (pa P (ix n)))) (hn : pIsNode P n = true) (h : Q (some (.int (bI (E (pb P (ix n)) (sNote S (pa P (ix n)))).1))) (wC P (E (pb P (ix n)) (sNote S (pa P (ix n)))).2)) : Ev (Cd d) cdX6_workFlow Q 165 [(0, .ref 3), (1, .int n), (2, .int dep)] [] (wC P S) := by
  refine Ev.go (Cd.mono d) [] 100 ?_
  refine And.intro (cx.node_in hn) ?_
  refine s_takeNote (by omega) (cx.noted hJ) _ ?_
  refine And.intro (cx.node_in hn) ?_
  refine cx.call hN ?_
  refine And.intro (bI01 _) ?_
  exact h
set_option maxRecDepth 100000 in
set_option maxHeartbeats 1000000 in
theorem s_flow18 (hd : 8 ≤ d) (cx : CX P E J V d dep) {k : Int} {S : SS} {Q : xQ} (hJ : J k S) (n : Int32) (hn : pIsNode P n = true) (h : Q (some (.int (bI (oAnd (E (pb P (ix n)) S) (fun S => oCast P S n)).1))) (wC P (oAnd (E (pb P (ix n)) S) (fun S => oCast P S n)).2)) : Ev (Cd d) cdX6_workFlow Q 195 [(0, .ref 3), (1, .int n), (2, .int dep)] [] (wC P S) := by
  refine Ev.go (Cd.mono d) [] 100 ?_
  refine And.intro (cx.node_in hn) ?_
  refine cx.call hJ ?_
  unfold oAnd at h
  refine And.intro (fun h1 => ?_) (fun h1 => ?_)
  · rw [bI_eq0] at h1
    simp only [h1, cond_false] at h
    refine And.intro (Or.inl rfl) ?_
    exact h
  · rw [bI_ne0] at h1
    simp only [h1, cond_true] at h
    refine s_cast (by omega) (by exact cx.ok (cx.pre hJ)) _ (cx.node_in hn) ?_
    refine And.intro (fun h2 => ?_) (fun h2 => ?_)
    · rw [bI_eq0] at h2
      rw [h2] at h
      refine And.intro (Or.inl rfl) ?_
      exact h
    · rw [bI_ne0] at h2
      rw [h2] at h
      refine And.intro (Or.inr rfl) ?_
      exact h
set_option maxRecDepth 100000 in
set_option maxHeartbeats 1000000 in
theorem s_flow19 (hd : 8 ≤ d) (cx : CX P E J V d dep) {k : Int} {S : SS} {Q : xQ} (hJ : J k S) (n : Int32) (hn : pIsNode P n = true) (h : Q (some (.int (bI (oAnd (E (pb P (ix n)) S) (fun S => oAnd (oRef S n) (fun S => (true, sGive S 0 (bL (sIsOf S (pa P (ix n)))))))).1))) (wC P (oAnd (E (pb P (ix n)) S) (fun S => oAnd (oRef S n) (fun S => (true, sGive S 0 (bL (sIsOf S (pa P (ix n)))))))).2)) : Ev (Cd d) cdX6_workFlow Q 228 [(0, .ref 3), (1, .int n), (2, .int dep)] [] (wC P S) := by
  refine Ev.go (Cd.mono d) [] 100 ?_
  refine And.intro (cx.node_in hn) ?_
  refine cx.call hJ ?_
  unfold oAnd at h
  refine And.intro (fun h1 => ?_) (fun h1 => ?_)
  · rw [bI_eq0] at h1
    simp only [h1, cond_false] at h
    refine And.intro (Or.inl rfl) ?_
    exact h
  · rw [bI_ne0] at h1
    simp only [h1, cond_true] at h
    refine s_wantReference (by omega) _ ?_
    refine And.intro (fun h2 => ?_) (fun h2 => ?_)
    · rw [bI_eq0] at h2
      simp only [h2, cond_false] at h
      refine And.intro (Or.inl rfl) ?_
      exact h
    · rw [bI_ne0] at h2
      simp only [h2, cond_true] at h
      rw [oRef_same h2] at h ⊢
      refine And.intro (cx.node_in hn) ?_
      refine s_isThingOf (by omega) (by exact cx.ok (cx.pre hJ)) _ ?_
      refine s_giveTruth (by omega) _ ?_
      refine And.intro (fun h3 => absurd h3 (by decide)) (fun _ => ?_)
      refine And.intro (Or.inr rfl) ?_
      exact h
set_option maxRecDepth 100000 in
set_option maxHeartbeats 1000000 in
theorem s_flow23 (hd : 8 ≤ d) (cx : CX P E J V d dep) {k : Int} {S : SS} {Q : xQ} (hJ : J k S) (n : Int32) (hn : pIsNode P n = true) (h : Q (some (.int (bI (oAnd (E (pa P (ix n)) S) (fun S => E (pb P (ix n)) S)).1))) (wC P (oAnd (E (pa P (ix n)) S) (fun S => E (pb P (ix n)) S)).2)) : Ev (Cd d) cdX6_workFlow Q 281 [(0, .ref 3), (1, .int n), (2, .int dep)] [] (wC P S) := by
  refine Ev.go (Cd.mono d) [] 100 ?_
  refine And.intro (cx.node_in hn) ?_
  refine cx.call hJ ?_
  unfold oAnd at h
  refine And.intro (fun h1 => ?_) (fun h1 => ?_)
  · rw [bI_eq0] at h1
    simp only [h1, cond_false] at h
    refine And.intro (Or.inl rfl) ?_
    exact h
  · rw [bI_ne0] at h1
    simp only [h1, cond_true] at h
    refine And.intro (cx.node_in hn) ?_
    refine cx.call (cx.pre hJ) ?_
    refine And.intro (fun h2 => ?_) (fun h2 => ?_)
    · rw [bI_eq0] at h2
      rw [h2] at h
      refine And.intro (Or.inl rfl) ?_
      exact h
    · rw [bI_ne0] at h2
      rw [h2] at h
      refine And.intro (Or.inr rfl) ?_
      exact h
set_option maxRecDepth 100000 in
set_option maxHeartbeats 1000000 in
theorem s_flow24 (hd : 8 ≤ d) (cx : CX P E J V d dep) {k : Int} {S : SS} {Q : xQ} (hJ : J k S) (n : Int32) (hn : pIsNode P n = true) (h : Q (some (.int (bI (oAnd (E (pa P (ix n)) S) (fun S => oAnd (oNum S n) (fun S => E (bif decide (rA S.2.2 = 0) then pc' P (ix n) else pb P (ix n)) S))).1))) (wC P (oAnd (E (pa P (ix n)) S) (fun S => oAnd (oNum S n) (fun S => E (bif decide (rA S.2.2 = 0) then pc' P (ix n) else pb P (ix n)) S))).2)) : Ev (Cd d) cdX6_workFlow Q 325 [(0, .ref 3), (1, .int n), (2, .int dep)] [] (wC P S) := by
  refine Ev.go (Cd.mono d) [] 100 ?_
  refine And.intro (cx.node_in hn) ?_
  refine cx.call hJ ?_
  unfold oAnd at h
  refine And.intro (fun h1 => ?_) (fun h1 => ?_)
  · rw [bI_eq0] at h1
    simp only [h1, cond_false] at h
    refine And.intro (Or.inl rfl) ?_
    exact h
  · rw [bI_ne0] at h1
    simp only [h1, cond_true] at h
    refine s_wantNumber (by omega) _ ?_
    refine And.intro (fun h2 => ?_) (fun h2 => ?_)
    · rw [bI_eq0] at h2
      simp only [h2, cond_false] at h
      refine And.intro (Or.inl rfl) ?_
      exact h
    · rw [bI_ne0] at h2
      simp only [h2, cond_true] at h
      rw [oNum_same h2] at h ⊢
      refine And.intro (fun h3 => ?_) (fun h3 => ?_)
      · rw [lc_0] at h3
        simp only [decide_eq_true h3, cond_true] at h
        refine And.intro (cx.node_in hn) ?_
        refine cx.call (cx.pre hJ) ?_
        refine And.intro (fun h4 => ?_) (fun h4 => ?_)
        · rw [bI_eq0] at h4
          rw [h4] at h
          refine And.intro (Or.inl rfl) ?_
          exact h
        · rw [bI_ne0] at h4
          rw [h4] at h
          refine And.intro (Or.inr rfl) ?_
          exact h
      · rw [lc_0] at h3
        simp only [decide_eq_false h3, cond_false] at h
        refine And.intro (cx.node_in hn) ?_
        refine cx.call (cx.pre hJ) ?_
        refine And.intro (fun h4 => ?_) (fun h4 => ?_)
        · rw [bI_eq0] at h4
          rw [h4] at h
          refine And.intro (Or.inl rfl) ?_
          exact h
        · rw [bI_ne0] at h4
          rw [h4] at h
          refine And.intro (Or.inr rfl) ?_
          exact h
set_option maxRecDepth 100000 in
set_option maxHeartbeats 1000000 in
theorem s_flow25 (hd : 8 ≤ d) (cx : CX P E J V d dep) {k : Int} {S : SS} {Q : xQ} (hJ : J k S) (n : Int32) (hn : pIsNode P n = true) (h : Q (some (.int (bI (bif (E (pa P (ix n)) S).1 then E (pa P (ix n)) S else oAnd (oTake P (E (pa P (ix n)) S).2 n) (fun S => E (pb P (ix n)) S)).1))) (wC P (bif (E (pa P (ix n)) S).1 then E (pa P (ix n)) S else oAnd (oTake P (E (pa P (ix n)) S).2 n) (fun S => E (pb P (ix n)) S)).2)) : Ev (Cd d) cdX6_workFlow Q 398 [(0, .ref 3), (1, .int n), (2, .int dep)] [] (wC P S) := by
  refine Ev.go (Cd.mono d) [] 100 ?_
  refine And.intro (cx.node_in hn) ?_
  refine cx.call hJ ?_
  unfold oAnd at h
  refine And.intro (fun h1 => ?_) (fun h1 => ?_)
  · rw [bI_ne0] at h1
    simp only [h1, cond_true] at h
    refine And.intro (Or.inr rfl) ?_
    exact h
  · rw [bI_eq0] at h1
    simp only [h1, cond_false] at h
    refine s_takeFailure (by omega) _ (cx.node_in hn) ?_
    refine And.intro (fun h2 => ?_) (fun h2 => ?_)
    · rw [bI_eq0] at h2
      simp only [h2, cond_false] at h
      refine And.intro (Or.inl rfl) ?_
      exact h
    · rw [bI_ne0] at h2
      simp only [h2, cond_true] at h
      refine And.intro (cx.node_in hn) ?_
      refine cx.call (cx.take (cx.pre hJ) h2) ?_
      refine And.intro (fun h4 => ?_) (fun h4 => ?_)
      · rw [bI_eq0] at h4
        rw [h4] at h
        refine And.intro (Or.inl rfl) ?_
        exact h
      · rw [bI_ne0] at h4
        rw [h4] at h
        refine And.intro (Or.inr rfl) ?_
        exact h
set_option maxRecDepth 100000 in
set_option maxHeartbeats 1000000 in
theorem s_flow0 (hd : 8 ≤ d) {S : SS} {Q : xQ} (n : Int32) (h : Q (some (.int 0)) (wC P (sFail S 9 n))) : Ev (Cd d) cdX6_workFlow Q 450 [(0, .ref 3), (1, .int n), (2, .int dep)] [] (wC P S) := by
  refine Ev.go (Cd.mono d) [] 100 ?_
  refine s_fail (by omega) _ _ ?_
  refine And.intro (Or.inl rfl) ?_
  exact h
end FLOW
