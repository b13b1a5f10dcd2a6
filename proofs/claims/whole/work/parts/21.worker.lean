/-! the class's worker: what does not work a NODE -/
abbrev SO : Type := Bool × SS
def sFail (S : SS) (c n : Int32) : SS := (S.1, S.2.1, (rK S.2.2, rA S.2.2, c, n, rN S.2.2, rT S.2.2, rC S.2.2))
def sGive (S : SS) (k : Int32) (a : Int64) : SS := (S.1, S.2.1, (k, a, rF S.2.2, rW S.2.2, rN S.2.2, rT S.2.2, rC S.2.2))
def sVar (S : SS) (v k : Int32) (a : Int64) : SS := bif isVar v then (S.1, (x_up (vK S.2.1) (ix v) k, x_up (vA S.2.1) (ix v) a, vT S.2.1, vHK S.2.1, vHA S.2.1, vH S.2.1), S.2.2) else S
def sHeld (S : SS) (x : Int32) : SS := (S.1, (vK S.2.1, vA S.2.1, vT S.2.1, vHK S.2.1, vHA S.2.1, x), S.2.2)
def sNote (S : SS) (n : Int32) : SS := (S.1, (vK S.2.1, vA S.2.1, (bif decide (256 ≤ rT S.2.2) then vT S.2.1 else x_up (vT S.2.1) (ix (rT S.2.2)) n), vHK S.2.1, vHA S.2.1, vH S.2.1), (rK S.2.2, rA S.2.2, rF S.2.2, rW S.2.2, rN S.2.2, rT S.2.2 + 1, rC S.2.2))
set_option maxRecDepth 100000 in
set_option maxHeartbeats 1000000 in
theorem s_fail {D : Nat} (hD : 1 ≤ D) {P : SP} {S : SS} {Q : xQ} (c n : Int32) (h : Q (some (.int 0)) (wC P (sFail S c n))) : Cd D 58 [.ref 3, .int c, .int n] (wC P S) Q := by
  refine Cd.up hD ?_
  refine Cd.mk cdX6_fail 3 2 2 [(0, .ref 3), (1, .int c), (2, .int n)] rfl rfl rfl rfl 1000 ?_
  refine And.intro (Or.inl rfl) ?_
  exact h
set_option maxRecDepth 100000 in
set_option maxHeartbeats 1000000 in
theorem s_give {D : Nat} (hD : 1 ≤ D) {P : SP} {S : SS} {Q : xQ} (k : Int32) (a : Int64) (h : Q (some (.int 1)) (wC P (sGive S k a))) : Cd D 73 [.ref 3, .int k, .long a] (wC P S) Q := by
  refine Cd.up hD ?_
  refine Cd.mk cdX6_give 4 2 2 [(0, .ref 3), (1, .int k), (2, .long a)] rfl rfl rfl rfl 1000 ?_
  refine And.intro (Or.inr rfl) ?_
  exact h
set_option maxRecDepth 100000 in
set_option maxHeartbeats 1000000 in
theorem s_giveNumber {D : Nat} (hD : 2 ≤ D) {P : SP} {S : SS} {Q : xQ} (a : Int64) (h : Q (some (.int 1)) (wC P (sGive S 0 a))) : Cd D 74 [.ref 3, .long a] (wC P S) Q := by
  refine Cd.up hD ?_
  refine Cd.mk cdX6_giveNumber 3 2 1 [(0, .ref 3), (1, .long a)] rfl rfl rfl rfl 1000 ?_
  refine s_give (by decide) _ _ ?_
  refine And.intro (Or.inr rfl) ?_
  exact h
def bL (b : Bool) : Int64 := match b with
  | true => 1
  | false => 0
set_option maxRecDepth 100000 in
set_option maxHeartbeats 1000000 in
theorem s_giveTruth {D : Nat} (hD : 3 ≤ D) {P : SP} {S : SS} {Q : xQ} (b : Bool) (h : Q (some (.int 1)) (wC P (sGive S 0 (bL b)))) : Cd D 75 [.ref 3, .int (bI b)] (wC P S) Q := by
  refine Cd.up hD ?_
  refine Cd.mk cdX6_giveTruth 2 2 1 [(0, .ref 3), (1, .int (bI b))] rfl rfl rfl rfl 1000 ?_
  refine And.intro (fun h1 => ?_) (fun h1 => ?_)
  · rw [bI_eq0] at h1
    refine s_giveNumber (by decide) _ ?_
    refine And.intro (Or.inr rfl) ?_
    rw [h1] at h
    exact h
  · rw [bI_ne0] at h1
    refine s_giveNumber (by decide) _ ?_
    refine And.intro (Or.inr rfl) ?_
    rw [h1] at h
    exact h
def sGiveVar (S : SS) (v : Int32) : SS := bif isVar v then sGive S (vK S.2.1 (ix v)) (vA S.2.1 (ix v)) else sGive S 0 0
set_option maxRecDepth 100000 in
set_option maxHeartbeats 1000000 in
theorem s_giveVariable {D : Nat} (hD : 3 ≤ D) {P : SP} {S : SS} {Q : xQ} (v : Int32) (h : Q (some (.int 1)) (wC P (sGiveVar S v))) : Cd D 76 [.ref 3, .int v] (wC P S) Q := by
  refine Cd.up hD ?_
  refine Cd.mk cdX6_giveVariable 2 2 1 [(0, .ref 3), (1, .int v)] rfl rfl rfl rfl 1000 ?_
  unfold sGiveVar at h
  refine s_isVariable (by decide) v ?_
  refine And.intro (fun h1 => ?_) (fun h1 => ?_)
  · rw [bI_eq0] at h1
    simp only [h1, cond_false] at h
    refine s_giveNumber (by decide) _ ?_
    refine And.intro (Or.inr rfl) ?_
    exact h
  · rw [bI_ne0] at h1
    simp only [h1, cond_true] at h
    refine And.intro (isVar_in h1) ?_
    refine And.intro (isVar_in h1) ?_
    refine s_give (by decide) _ _ ?_
    refine And.intro (Or.inr rfl) ?_
    exact h
def sGiveEl (S : SS) (t i : Int32) : SS := sGive S (hKindAt S.1 t i) (hAmAt S.1 t i)
set_option maxRecDepth 100000 in
set_option maxHeartbeats 1000000 in
theorem s_giveElement {D : Nat} (hD : 6 ≤ D) {P : SP} {S : SS} {Q : xQ} (hh : hOK S.1) (t i : Int32) (h : Q (some (.int 1)) (wC P (sGiveEl S t i))) : Cd D 77 [.ref 3, .int t, .int i] (wC P S) Q := by
  refine Cd.up hD ?_
  refine Cd.mk cdX6_giveElement 3 2 2 [(0, .ref 3), (1, .int t), (2, .int i)] rfl rfl rfl rfl 1000 ?_
  refine s_kindAt (by decide) hh _ _ ?_
  refine s_amountAt (by decide) hh _ _ ?_
  refine s_give (by decide) _ _ ?_
  refine And.intro (Or.inr rfl) ?_
  exact h
def oMade (S : SS) (n m : Int32) : SO := bif decide (m = -1) then (false, sFail S 6 n) else (true, sGive S 2 m.toInt64)
set_option maxRecDepth 100000 in
set_option maxHeartbeats 1000000 in
theorem s_giveMade {D : Nat} (hD : 2 ≤ D) {P : SP} {S : SS} {Q : xQ} (n m : Int32) (h : Q (some (.int (bI (oMade S n m).1))) (wC P (oMade S n m).2)) : Cd D 78 [.ref 3, .int n, .int m] (wC P S) Q := by
  refine Cd.up hD ?_
  refine Cd.mk cdX6_giveMade 3 2 2 [(0, .ref 3), (1, .int n), (2, .int m)] rfl rfl rfl rfl 1000 ?_
  unfold oMade at h
  refine And.intro (fun h1 => ?_) (fun h1 => ?_)
  · simp only [decide_eq_false h1, cond_false] at h
    refine s_give (by decide) _ _ ?_
    refine And.intro (Or.inr rfl) ?_
    exact h
  · simp only [decide_eq_true h1, cond_true] at h
    refine s_fail (by decide) _ _ ?_
    refine And.intro (Or.inl rfl) ?_
    exact h
def oSame (S : SS) (n k : Int32) (a : Int64) : SO := bif (decide (rK S.2.2 = 0) != decide (k = 0)) then (false, sFail S 9 n) else (true, sGive S 0 (bL (decide (rK S.2.2 = k) && decide (rA S.2.2 = a))))
set_option maxRecDepth 100000 in
set_option maxHeartbeats 1000000 in
theorem s_giveSame_32 {d : Nat} (hd : 3 ≤ d) {P : SP} {S : SS} {Q : xQ} (n k : Int32) (a : Int64) (h : Q (some (.int 1)) (wC P (sGive S 0 (bL (decide (rK S.2.2 = k) && decide (rA S.2.2 = a)))))) : Ev (Cd d) cdX6_giveSame Q 32 [(0, .ref 3), (1, .int n), (2, .int k), (3, .long a)] [] (wC P S) := by
  refine Ev.go (Cd.mono d) [] 100 ?_
  refine And.intro (fun h1 => ?_) (fun h1 => ?_)
  · simp only [decide_eq_false h1, Bool.false_and] at h
    refine s_giveTruth (by omega) false ?_
    refine And.intro (Or.inr rfl) ?_
    exact h
  · simp only [decide_eq_true h1, Bool.true_and] at h
    refine And.intro (fun h2 => ?_) (fun h2 => ?_)
    · rw [lc_0] at h2
      simp only [decide_eq_false h2] at h
      refine s_giveTruth (by omega) false ?_
      refine And.intro (Or.inr rfl) ?_
      exact h
    · rw [lc_0] at h2
      simp only [decide_eq_true h2] at h
      refine s_giveTruth (by omega) true ?_
      refine And.intro (Or.inr rfl) ?_
      exact h
set_option maxRecDepth 100000 in
set_option maxHeartbeats 1000000 in
theorem s_giveSame {D : Nat} (hD : 4 ≤ D) {P : SP} {S : SS} {Q : xQ} (n k : Int32) (a : Int64) (h : Q (some (.int (bI (oSame S n k a).1))) (wC P (oSame S n k a).2)) : Cd D 79 [.ref 3, .int n, .int k, .long a] (wC P S) Q := by
  refine Cd.up hD ?_
  refine Cd.mk cdX6_giveSame 5 2 3 [(0, .ref 3), (1, .int n), (2, .int k), (3, .long a)] rfl rfl rfl rfl 0 ?_
  refine Ev.go (Cd.mono 3) [32] 100 ?_
  unfold oSame at h
  refine And.intro (fun h1 => ?_) (fun h1 => ?_)
  · refine And.intro (fun h2 => ?_) (fun h2 => ?_)
    · refine And.intro (fun _ => ?_) (fun h3 => absurd rfl h3)
      simp only [decide_eq_false h1, decide_eq_false h2, bne_self_eq_false, cond_false] at h
      exact s_giveSame_32 (by decide) n k a h
    · refine And.intro (fun h3 => absurd h3 (by decide)) (fun _ => ?_)
      simp only [decide_eq_false h1, decide_eq_true h2, Bool.false_bne, cond_true] at h
      refine s_fail (by decide) _ _ ?_
      refine And.intro (Or.inl rfl) ?_
      exact h
  · refine And.intro (fun h2 => ?_) (fun h2 => ?_)
    · refine And.intro (fun h3 => absurd h3 (by decide)) (fun _ => ?_)
      simp only [decide_eq_true h1, decide_eq_false h2, Bool.true_bne, Bool.not_false, cond_true] at h
      refine s_fail (by decide) _ _ ?_
      refine And.intro (Or.inl rfl) ?_
      exact h
    · refine And.intro (fun _ => ?_) (fun h3 => absurd rfl h3)
      simp only [decide_eq_true h1, decide_eq_true h2, bne_self_eq_false, cond_false] at h
      exact s_giveSame_32 (by decide) n k a h
def oNum (S : SS) (n : Int32) : SO := bif decide (rK S.2.2 = 0) then (true, S) else (false, sFail S 9 n)
set_option maxRecDepth 100000 in
set_option maxHeartbeats 1000000 in
theorem s_wantNumber {D : Nat} (hD : 2 ≤ D) {P : SP} {S : SS} {Q : xQ} (n : Int32) (h : Q (some (.int (bI (oNum S n).1))) (wC P (oNum S n).2)) : Cd D 68 [.ref 3, .int n] (wC P S) Q := by
  refine Cd.up hD ?_
  refine Cd.mk cdX6_wantNumber 2 2 1 [(0, .ref 3), (1, .int n)] rfl rfl rfl rfl 1000 ?_
  unfold oNum at h
  refine And.intro (fun h1 => ?_) (fun h1 => ?_)
  · simp only [decide_eq_true h1, cond_true] at h
    refine And.intro (Or.inr rfl) ?_
    exact h
  · simp only [decide_eq_false h1, cond_false] at h
    refine s_fail (by decide) _ _ ?_
    refine And.intro (fun _ => ?_) (fun h3 => absurd rfl h3)
    refine And.intro (Or.inl rfl) ?_
    exact h
def oRef (S : SS) (n : Int32) : SO := bif decide (rK S.2.2 = 0) then (false, sFail S 9 n) else (true, S)
set_option maxRecDepth 100000 in
set_option maxHeartbeats 1000000 in
theorem s_wantReference {D : Nat} (hD : 2 ≤ D) {P : SP} {S : SS} {Q : xQ} (n : Int32) (h : Q (some (.int (bI (oRef S n).1))) (wC P (oRef S n).2)) : Cd D 69 [.ref 3, .int n] (wC P S) Q := by
  refine Cd.up hD ?_
  refine Cd.mk cdX6_wantReference 2 2 1 [(0, .ref 3), (1, .int n)] rfl rfl rfl rfl 1000 ?_
  unfold oRef at h
  refine And.intro (fun h1 => ?_) (fun h1 => ?_)
  · simp only [decide_eq_false h1, cond_false] at h
    refine And.intro (Or.inr rfl) ?_
    exact h
  · simp only [decide_eq_true h1, cond_true] at h
    refine s_fail (by decide) _ _ ?_
    refine And.intro (fun _ => ?_) (fun h3 => absurd rfl h3)
    refine And.intro (Or.inl rfl) ?_
    exact h
def oArr (S : SS) (n : Int32) : SO := bif (decide (rK S.2.2 = 1) || (decide (rK S.2.2 = 2) && hIsArray S.1 (rA S.2.2).toInt32)) then (true, S) else (false, sFail S 9 n)
set_option maxRecDepth 100000 in
set_option maxHeartbeats 1000000 in
theorem s_wantArrayOrNull {D : Nat} (hD : 3 ≤ D) {P : SP} {S : SS} {Q : xQ} (hh : hOK S.1) (n : Int32) (h : Q (some (.int (bI (oArr S n).1))) (wC P (oArr S n).2)) : Cd D 70 [.ref 3, .int n] (wC P S) Q := by
  refine Cd.up hD ?_
  refine Cd.mk cdX6_wantArrayOrNull 2 2 1 [(0, .ref 3), (1, .int n)] rfl rfl rfl rfl 1000 ?_
  unfold oArr at h
  refine And.intro (fun h1 => ?_) (fun h1 => ?_)
  · simp only [decide_eq_true h1, Bool.true_or, cond_true] at h
    refine And.intro (Or.inr rfl) ?_
    exact h
  · simp only [decide_eq_false h1, Bool.false_or] at h
    refine And.intro (fun h2 => ?_) (fun h2 => ?_)
    · simp only [decide_eq_false h2, Bool.false_and, cond_false] at h
      refine s_fail (by decide) _ _ ?_
      refine And.intro (fun _ => ?_) (fun h3 => absurd rfl h3)
      refine And.intro (Or.inl rfl) ?_
      exact h
    · simp only [decide_eq_true h2, Bool.true_and] at h
      refine s_isArray (by decide) hh _ ?_
      refine And.intro (fun h3 => ?_) (fun h3 => ?_)
      · rw [bI_ne0] at h3
        simp only [h3, cond_true] at h
        refine And.intro (Or.inr rfl) ?_
        exact h
      · rw [bI_eq0] at h3
        simp only [h3, cond_false] at h
        refine s_fail (by decide) _ _ ?_
        refine And.intro (fun _ => ?_) (fun h3 => absurd rfl h3)
        refine And.intro (Or.inl rfl) ?_
        exact h
def oEl (S : SS) (n t i : Int32) : SO := bif decide (t = -1) then (false, sFail S 1 n) else bif hHasEl S.1 t i then (true, S) else (false, sFail S 2 n)
set_option maxRecDepth 100000 in
set_option maxHeartbeats 1000000 in
theorem s_wantElement {D : Nat} (hD : 4 ≤ D) {P : SP} {S : SS} {Q : xQ} (hh : hOK S.1) (n t i : Int32) (h : Q (some (.int (bI (oEl S n t i).1))) (wC P (oEl S n t i).2)) : Cd D 71 [.ref 3, .int n, .int t, .int i] (wC P S) Q := by
  refine Cd.up hD ?_
  refine Cd.mk cdX6_wantElement 4 2 3 [(0, .ref 3), (1, .int n), (2, .int t), (3, .int i)] rfl rfl rfl rfl 1000 ?_
  unfold oEl at h
  refine And.intro (fun h1 => ?_) (fun h1 => ?_)
  · simp only [decide_eq_false h1, cond_false] at h
    refine s_hasElement (by decide) hh _ _ ?_
    refine And.intro (fun h2 => ?_) (fun h2 => ?_)
    · rw [bI_ne0] at h2
      simp only [h2, cond_true] at h
      refine And.intro (Or.inr rfl) ?_
      exact h
    · rw [bI_eq0] at h2
      simp only [h2, cond_false] at h
      refine s_fail (by decide) _ _ ?_
      refine And.intro (fun _ => ?_) (fun h3 => absurd rfl h3)
      refine And.intro (Or.inl rfl) ?_
      exact h
  · simp only [decide_eq_true h1, cond_true] at h
    refine s_fail (by decide) _ _ ?_
    refine And.intro (Or.inl rfl) ?_
    exact h
def oAdd (S : SS) (n t : Int32) : SO := bif (hNums S.1 t && !decide (hTyEl S.1 t = 0)) then (true, S) else (false, sFail S 9 n)
set_option maxRecDepth 100000 in
set_option maxHeartbeats 1000000 in
theorem s_wantAddable {D : Nat} (hD : 5 ≤ D) {P : SP} {S : SS} {Q : xQ} (hh : hOK S.1) (n t : Int32) (h : Q (some (.int (bI (oAdd S n t).1))) (wC P (oAdd S n t).2)) : Cd D 72 [.ref 3, .int n, .int t] (wC P S) Q := by
  refine Cd.up hD ?_
  refine Cd.mk cdX6_wantAddable 4 2 2 [(0, .ref 3), (1, .int n), (2, .int t)] rfl rfl rfl rfl 1000 ?_
  unfold oAdd at h
  refine s_holdsNumbers (by decide) hh _ ?_
  refine And.intro (fun h1 => ?_) (fun h1 => ?_)
  · rw [bI_eq0] at h1
    simp only [h1, Bool.false_and, cond_false] at h
    refine And.intro (fun h3 => absurd rfl h3) (fun _ => ?_)
    refine s_fail (by decide) _ _ ?_
    refine And.intro (fun _ => ?_) (fun h3 => absurd rfl h3)
    refine And.intro (Or.inl rfl) ?_
    exact h
  · rw [bI_ne0] at h1
    refine s_typeOfElements (by decide) hh _ ?_
    refine And.intro (fun h2 => ?_) (fun h2 => ?_)
    · simp only [h1, decide_eq_true h2, Bool.not_true, Bool.and_false, cond_false] at h
      refine And.intro (fun h3 => absurd rfl h3) (fun _ => ?_)
      refine s_fail (by decide) _ _ ?_
      refine And.intro (fun _ => ?_) (fun h3 => absurd rfl h3)
      refine And.intro (Or.inl rfl) ?_
      exact h
    · simp only [h1, decide_eq_false h2, Bool.not_false, Bool.and_true, cond_true] at h
      refine And.intro (fun _ => ?_) (fun h3 => absurd h3 (by decide))
      refine And.intro (Or.inr rfl) ?_
      exact h
def sIsOf (S : SS) (t : Int32) : Bool := decide (rK S.2.2 = 2) && tSub (hTypeOf S.1 (rA S.2.2).toInt32) t
set_option maxRecDepth 100000 in
set_option maxHeartbeats 1000000 in
theorem s_isThingOf {D : Nat} (hD : 3 ≤ D) {P : SP} {S : SS} {Q : xQ} (hh : hOK S.1) (t : Int32) (h : Q (some (.int (bI (sIsOf S t)))) (wC P S)) : Cd D 67 [.ref 3, .int t] (wC P S) Q := by
  refine Cd.up hD ?_
  refine Cd.mk cdX6_isThingOf 2 2 1 [(0, .ref 3), (1, .int t)] rfl rfl rfl rfl 1000 ?_
  unfold sIsOf at h
  refine And.intro (fun h1 => ?_) (fun h1 => ?_)
  · simp only [decide_eq_false h1, Bool.false_and] at h
    refine And.intro (Or.inl rfl) ?_
    exact h
  · simp only [decide_eq_true h1, Bool.true_and] at h
    refine s_typeOf (by decide) hh _ ?_
    refine s_isSub (by decide) _ _ ?_
    refine And.intro (fun h2 => ?_) (fun h2 => ?_)
    · rw [bI_eq0] at h2
      rw [h2] at h
      refine And.intro (Or.inl rfl) ?_
      exact h
    · rw [bI_ne0] at h2
      rw [h2] at h
      refine And.intro (Or.inr rfl) ?_
      exact h
def oCast (P : SP) (S : SS) (n : Int32) : SO :=
  bif (tIsNum (pa P (ix n)) != decide (rK S.2.2 = 0)) then (false, sFail S 9 n)
  else bif decide (rK S.2.2 = 0) then (true, sGive S 0 (nCut (pa P (ix n)) (rA S.2.2)))
  else bif (decide (rK S.2.2 = 1) || sIsOf S (pa P (ix n))) then (true, S) else (false, sFail S 5 n)
set_option maxRecDepth 100000 in
set_option maxHeartbeats 1000000 in
theorem s_cast_37 {d : Nat} (hd : 3 ≤ d) {P : SP} {S : SS} {Q : xQ} (hh : hOK S.1) (n : Int32) (h : Q (some (.int (bI (bif decide (rK S.2.2 = 0) then (true, sGive S 0 (nCut (pa P (ix n)) (rA S.2.2))) else bif (decide (rK S.2.2 = 1) || sIsOf S (pa P (ix n))) then (true, S) else (false, sFail S 5 n)).1))) (wC P (bif decide (rK S.2.2 = 0) then (true, sGive S 0 (nCut (pa P (ix n)) (rA S.2.2))) else bif (decide (rK S.2.2 = 1) || sIsOf S (pa P (ix n))) then (true, S) else (false, sFail S 5 n)).2)) : Ev (Cd d) cdX6_cast Q 37 [(0, .ref 3), (1, .int n), (2, .int (pa P (ix n)))] [] (wC P S) := by
  refine Ev.go (Cd.mono d) [] 100 ?_
  refine And.intro (fun h1 => ?_) (fun h1 => ?_)
  · simp only [decide_eq_false h1, cond_false] at h
    refine And.intro (fun h2 => ?_) (fun h2 => ?_)
    · simp only [decide_eq_true h2, Bool.true_or, cond_true] at h
      refine And.intro (Or.inr rfl) ?_
      exact h
    · simp only [decide_eq_false h2, Bool.false_or] at h
      refine s_isThingOf (by omega) hh _ ?_
      refine And.intro (fun h3 => ?_) (fun h3 => ?_)
      · rw [bI_ne0] at h3
        simp only [h3, cond_true] at h
        refine And.intro (Or.inr rfl) ?_
        exact h
      · rw [bI_eq0] at h3
        simp only [h3, cond_false] at h
        refine s_fail (by omega) _ _ ?_
        refine And.intro (fun _ => ?_) (fun h3 => absurd rfl h3)
        refine And.intro (Or.inl rfl) ?_
        exact h
  · simp only [decide_eq_true h1, cond_true] at h
    refine s_cut (by omega) _ _ ?_
    refine s_giveNumber (by omega) _ ?_
    refine And.intro (Or.inr rfl) ?_
    exact h
set_option maxRecDepth 100000 in
set_option maxHeartbeats 1000000 in
theorem s_cast {D : Nat} (hD : 4 ≤ D) {P : SP} {S : SS} {Q : xQ} (hh : hOK S.1) (n : Int32) (hn : vp_in n 80) (h : Q (some (.int (bI (oCast P S n).1))) (wC P (oCast P S n).2)) : Cd D 66 [.ref 3, .int n] (wC P S) Q := by
  refine Cd.up hD ?_
  refine Cd.mk cdX6_cast 3 2 1 [(0, .ref 3), (1, .int n)] rfl rfl rfl rfl 0 ?_
  refine Ev.go (Cd.mono 3) [37] 100 ?_
  unfold oCast at h
  refine And.intro hn ?_
  refine s_isOfNumbers (by decide) _ ?_
  refine And.intro (fun h2 => ?_) (fun h2 => ?_)
  · refine And.intro (fun h3 => ?_) (fun h3 => ?_)
    · have h4 : tIsNum (pa P (ix n)) = false := bI_0 h3
      simp only [h4, bne_self_eq_false, decide_eq_false h2, cond_false] at h
      refine s_cast_37 (by decide) hh n ?_
      simp only [decide_eq_false h2, cond_false]
      exact h
    · have h4 : tIsNum (pa P (ix n)) = true := bI_1 h3
      simp only [decide_eq_false h2, h4, Bool.true_bne, Bool.not_false, cond_true] at h
      refine s_fail (by decide) _ _ ?_
      refine And.intro (Or.inl rfl) ?_
      exact h
  · refine And.intro (fun h3 => ?_) (fun h3 => ?_)
    · have h4 : tIsNum (pa P (ix n)) = true := by
        cases hz : tIsNum (pa P (ix n))
        · have h3 : bI (tIsNum (pa P (ix n))) = 1 := h3
          rw [hz] at h3; exact absurd h3 (by decide)
        · rfl
      simp only [decide_eq_true h2, h4, bne_self_eq_false, cond_false, cond_true] at h
      refine s_cast_37 (by decide) hh n ?_
      simp only [decide_eq_true h2, cond_true]
      exact h
    · have h4 : tIsNum (pa P (ix n)) = false := by
        cases hz : tIsNum (pa P (ix n))
        · rfl
        · have h3 : ¬ bI (tIsNum (pa P (ix n))) = 1 := h3
          rw [hz] at h3; exact absurd rfl h3
      simp only [decide_eq_true h2, h4, Bool.false_bne, cond_true] at h
      refine s_fail (by decide) _ _ ?_
      refine And.intro (Or.inl rfl) ?_
      exact h
