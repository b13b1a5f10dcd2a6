/-! THE CLASS: its calls -/
set_option maxRecDepth 100000 in
set_option maxHeartbeats 1000000 in
theorem c_ev {P : SP} {J V : Int → SS → Prop} (hp : pOK P) (hf : fOK1) (jo : JO P J V) (hE : ∀ f k n S, J k S → J k (ev P f n S).2 ∧ ((ev P f n S).1 = true → V k (ev P f n S).2)) (hkeep : ∀ f kk x S t, J kk S → hIsArray S.1 t = true → hIsArray (ev P f x S).2.1 t = true ∧ hLe (ev P f x S).2.1 (ix t) = hLe S.1 (ix t)) (hlens : ∀ n, pIsNode P n = true → pC P (ix n) = 22 → 0 ≤ (pLen P (pb P (ix n))).toInt) : ∀ (f : Nat), f ≤ 80 → ∀ k n S (Q : xQ), J k S → Q (some (.int (bI (ev P f n S).1))) (wC P (ev P f n S).2) → Cd (3 * f + 8) 48 [.ref 3, .int n, .int (nI (81 - f))] (wC P S) Q
  | 0, _, k, n, S, Q, hJ, h => by
    refine Cd.mk cdX6_work 3 2 2 [(0, .ref 3), (1, .int n), (2, .int (nI (81 - 0)))] rfl rfl rfl rfl 0 ?_
    refine Ev.go (Cd.mono 7) [] 100 ?_
    refine s_isNode (by omega) n ?_
    refine And.intro (fun h1 => ?_) (fun h1 => ?_)
    · refine s_fail (by omega) _ _ ?_
      refine And.intro (Or.inl rfl) ?_
      exact h
    · refine And.intro (fun h2 => absurd h2 (by decide)) (fun _ => ?_)
      refine s_fail (by omega) _ _ ?_
      refine And.intro (Or.inl rfl) ?_
      exact h
  | f + 1, hf80, k, n, S, Q, hJ, h => by
    have e1 : nI (81 - (f + 1)) + 1 = nI (81 - f) := by rw [nI_1, show 81 - (f + 1) + 1 = 81 - f by omega]
    have cx : CX P (ev P f) J V (3 * f + 8) (nI (81 - (f + 1))) := ⟨hp, hf, jo, hE f, fun k n S Q hJ h => by rw [e1]; exact c_ev hp hf jo hE hkeep hlens f (by omega) k n S Q hJ h⟩
    refine Cd.up (show 3 * f + 8 + 3 ≤ 3 * (f + 1) + 8 by omega) ?_
    refine s_work (by omega) cx ?_ (hkeep f) hlens hJ n h
    rw [show (80 : Int32) = nI 80 from rfl]
    exact nI_nlt (by omega) (by decide)
def sStart (S : SS) : SS := (S.1, (vK S.2.1, vA S.2.1, vT S.2.1, vHK S.2.1, vHA S.2.1, 0), (rK S.2.2, rA S.2.2, 0, -1, 0, 0, 0))
def sFin (X : SO) : Int32 × SS := bif X.1 then (rK X.2.2.2, X.2) else (-10 - rF X.2.2.2, sGive X.2 0 0)
def sRun (P : SP) (n : Int32) (S : SS) : Int32 × SS := sFin (ev P 80 n (sStart S))
set_option maxRecDepth 100000 in
set_option maxHeartbeats 1000000 in
theorem s_start {d D : Nat} (hD : d + 1 ≤ D) (hd : 8 ≤ d) {P : SP} {S : SS} {Q : xQ} (n : Int32) (X : SO) (hW : ∀ Q : xQ, Q (some (.int (bI X.1))) (wC P X.2) → Cd d 48 [.ref 3, .int n, .int 1] (wC P (sStart S)) Q) (h : Q (some (.int (sFin X).1)) (wC P (sFin X).2)) : Cd D 46 [.ref 3, .int n] (wC P S) Q := by
  refine Cd.up hD ?_
  refine Cd.mk cdX6_start 2 2 1 [(0, .ref 3), (1, .int n)] rfl rfl rfl rfl 0 ?_
  refine Ev.go (Cd.mono d) [] 100 ?_
  unfold sFin at h
  refine hW _ ?_
  refine And.intro (fun h1 => ?_) (fun h1 => ?_)
  · rw [bI_eq0] at h1
    simp only [h1, cond_false] at h
    refine s_giveNumber (by omega) _ ?_
    exact h
  · rw [bI_ne0] at h1
    simp only [h1, cond_true] at h
    exact h
set_option maxRecDepth 100000 in
set_option maxHeartbeats 1000000 in
theorem k_node {D : Nat} (hD : 7 ≤ D) {P : SP} {S : SS} {Q : xQ} (hp : pOK P) (code a b c d : Int32) (h : Q (some (.int (pTell P code a b c d).1)) (wC (pTell P code a b c d).2 S)) : Cd D 80 [.ref 0, .int code, .int a, .int b, .int c, .int d] (wC P S) Q := by
  refine Cd.up hD ?_
  refine Cd.mk cdX7_node 6 3 5 [(0, .ref 0), (1, .int code), (2, .int a), (3, .int b), (4, .int c), (5, .int d)] rfl rfl rfl rfl 0 ?_
  refine Ev.go (Cd.mono 6) [] 100 ?_
  refine s_tell (by decide) hp _ _ _ _ _ ?_
  exact h
set_option maxRecDepth 100000 in
set_option maxHeartbeats 1000000 in
theorem k_clear {D : Nat} (hD : 2 ≤ D) {P : SP} {S : SS} {Q : xQ} (h : Q (some (.int (pN P))) (wC (pForget P) S)) : Cd D 81 [.ref 0] (wC P S) Q := by
  refine Cd.up hD ?_
  refine Cd.mk cdX7_clear 1 3 0 [(0, .ref 0)] rfl rfl rfl rfl 0 ?_
  refine Ev.go (Cd.mono 1) [] 100 ?_
  refine s_forget (by decide) ?_
  exact h
set_option maxRecDepth 100000 in
set_option maxHeartbeats 1000000 in
theorem k_run {e D : Nat} (hD : e + 1 ≤ D) (he : 1 ≤ e) {P : SP} {S : SS} {Q : xQ} (n : Int32) (R : Int32 × SS) (hW : pIsNode P n = true → ∀ Q : xQ, Q (some (.int R.1)) (wC P R.2) → Cd e 46 [.ref 3, .int n] (wC P S) Q) (h1 : pIsNode P n = true → Q (some (.int R.1)) (wC P R.2)) (h0 : pIsNode P n = false → Q (some (.int (-2))) (wC P S)) : Cd D 82 [.ref 0, .int n] (wC P S) Q := by
  refine Cd.up hD ?_
  refine Cd.mk cdX7_run 2 3 1 [(0, .ref 0), (1, .int n)] rfl rfl rfl rfl 0 ?_
  refine Ev.go (Cd.mono e) [] 100 ?_
  refine s_isNode he n ?_
  refine And.intro (fun g1 => ?_) (fun g1 => ?_)
  · rw [bI_eq0] at g1
    exact h0 g1
  · rw [bI_ne0] at g1
    refine hW g1 _ ?_
    exact h1 g1
set_option maxRecDepth 100000 in
set_option maxHeartbeats 1000000 in
theorem k_value {D : Nat} (hD : 1 ≤ D) {P : SP} {S : SS} {Q : xQ} (h : Q (some (.long (rA S.2.2))) (wC P S)) : Cd D 83 [.ref 0] (wC P S) Q := by
  refine Cd.up hD ?_
  refine Cd.mk cdX7_value 1 3 0 [(0, .ref 0)] rfl rfl rfl rfl 100 ?_
  exact h
set_option maxRecDepth 100000 in
set_option maxHeartbeats 1000000 in
theorem k_where {D : Nat} (hD : 1 ≤ D) {P : SP} {S : SS} {Q : xQ} (h : Q (some (.int (rW S.2.2))) (wC P S)) : Cd D 84 [.ref 0] (wC P S) Q := by
  refine Cd.up hD ?_
  refine Cd.mk cdX7_where 1 3 0 [(0, .ref 0)] rfl rfl rfl rfl 100 ?_
  exact h
set_option maxRecDepth 100000 in
set_option maxHeartbeats 1000000 in
theorem k_worked {D : Nat} (hD : 1 ≤ D) {P : SP} {S : SS} {Q : xQ} (h : Q (some (.int (rN S.2.2))) (wC P S)) : Cd D 85 [.ref 0] (wC P S) Q := by
  refine Cd.up hD ?_
  refine Cd.mk cdX7_worked 1 3 0 [(0, .ref 0)] rfl rfl rfl rfl 100 ?_
  exact h
set_option maxRecDepth 100000 in
set_option maxHeartbeats 1000000 in
theorem k_notes {D : Nat} (hD : 1 ≤ D) {P : SP} {S : SS} {Q : xQ} (h : Q (some (.int (rT S.2.2))) (wC P S)) : Cd D 86 [.ref 0] (wC P S) Q := by
  refine Cd.up hD ?_
  refine Cd.mk cdX7_notes 1 3 0 [(0, .ref 0)] rfl rfl rfl rfl 100 ?_
  exact h
set_option maxRecDepth 100000 in
set_option maxHeartbeats 1000000 in
theorem k_note {D : Nat} (hD : 2 ≤ D) {P : SP} {S : SS} {Q : xQ} (i : Int32) (h : Q (some (.int (sKept S i))) (wC P S)) : Cd D 87 [.ref 0, .int i] (wC P S) Q := by
  refine Cd.up hD ?_
  refine Cd.mk cdX7_note 2 3 1 [(0, .ref 0), (1, .int i)] rfl rfl rfl rfl 100 ?_
  refine s_kept (by decide) _ ?_
  exact h
set_option maxRecDepth 100000 in
set_option maxHeartbeats 1000000 in
theorem k_has {D : Nat} (hD : 2 ≤ D) {P : SP} {S : SS} {Q : xQ} (v : Int32) (h : Q (some (.int (bif isVar v then vK S.2.1 (ix v) else -2))) (wC P S)) : Cd D 88 [.ref 0, .int v] (wC P S) Q := by
  refine Cd.up hD ?_
  refine Cd.mk cdX7_has 2 3 1 [(0, .ref 0), (1, .int v)] rfl rfl rfl rfl 100 ?_
  refine s_isVariable (by decide) _ ?_
  refine And.intro (fun h1 => ?_) (fun h1 => ?_)
  · rw [bI_eq0] at h1
    simp only [h1, cond_false] at h
    exact h
  · rw [bI_ne0] at h1
    simp only [h1, cond_true] at h
    refine And.intro (isVar_in h1) ?_
    exact h
set_option maxRecDepth 100000 in
set_option maxHeartbeats 1000000 in
theorem k_get {D : Nat} (hD : 2 ≤ D) {P : SP} {S : SS} {Q : xQ} (v : Int32) (h : Q (some (.long (bif isVar v then vA S.2.1 (ix v) else 0))) (wC P S)) : Cd D 89 [.ref 0, .int v] (wC P S) Q := by
  refine Cd.up hD ?_
  refine Cd.mk cdX7_get 2 3 1 [(0, .ref 0), (1, .int v)] rfl rfl rfl rfl 100 ?_
  refine s_isVariable (by decide) _ ?_
  refine And.intro (fun h1 => ?_) (fun h1 => ?_)
  · rw [bI_eq0] at h1
    simp only [h1, cond_false] at h
    exact h
  · rw [bI_ne0] at h1
    simp only [h1, cond_true] at h
    refine And.intro (isVar_in h1) ?_
    exact h
def hThing (h : SH) (t w : Int32) : Int32 :=
  bif !hIsThing h t then -2
  else bif decide (w = 0) then hTypeOf h t else bif decide (w = 1) then hLenOf h t else bif decide (w = 2) then nI (hCount h t (ix (hLenOf h t))) else -2
set_option maxRecDepth 100000 in
set_option maxHeartbeats 1000000 in
theorem k_thing {D : Nat} (hD : 7 ≤ D) {P : SP} {S : SS} {Q : xQ} (hh : hOK S.1) (t w : Int32) (h : Q (some (.int (hThing S.1 t w))) (wC P S)) : Cd D 90 [.ref 0, .int t, .int w] (wC P S) Q := by
  refine Cd.up hD ?_
  refine Cd.mk cdX7_thing 3 3 2 [(0, .ref 0), (1, .int t), (2, .int w)] rfl rfl rfl rfl 100 ?_
  unfold hThing at h
  refine s_isThing (by decide) t ?_
  refine And.intro (fun h1 => ?_) (fun h1 => ?_)
  · rw [bI_ne0] at h1
    simp only [h1, Bool.not_true, cond_false] at h
    refine And.intro (fun h2 => ?_) (fun h2 => ?_)
    · simp only [decide_eq_true h2, cond_true] at h
      refine s_typeOf (by decide) hh t ?_
      exact h
    · simp only [decide_eq_false h2, cond_false] at h
      refine And.intro (fun h3 => ?_) (fun h3 => ?_)
      · simp only [decide_eq_true h3, cond_true] at h
        refine s_lengthOf (by decide) hh t ?_
        exact h
      · simp only [decide_eq_false h3, cond_false] at h
        refine And.intro (fun h4 => ?_) (fun h4 => ?_)
        · simp only [decide_eq_true h4, cond_true] at h
          refine s_thingsIn (by decide) hh t ?_
          exact h
        · simp only [decide_eq_false h4, cond_false] at h
          exact h
  · rw [bI_eq0] at h1
    simp only [h1, Bool.not_false, cond_true] at h
    exact h
set_option maxRecDepth 100000 in
set_option maxHeartbeats 1000000 in
theorem k_element {D : Nat} (hD : 5 ≤ D) {P : SP} {S : SS} {Q : xQ} (hh : hOK S.1) (t i : Int32) (h : Q (some (.long (hAmAt S.1 t i))) (wC P S)) : Cd D 91 [.ref 0, .int t, .int i] (wC P S) Q := by
  refine Cd.up hD ?_
  refine Cd.mk cdX7_element 3 3 2 [(0, .ref 0), (1, .int t), (2, .int i)] rfl rfl rfl rfl 100 ?_
  refine s_amountAt (by decide) hh _ _ ?_
  exact h
def tSubQ (s t : Int32) : Int32 := bif (tIsType s && tIsType t) then bI (tSub s t) else -2
set_option maxRecDepth 100000 in
set_option maxHeartbeats 1000000 in
theorem k_sub {D : Nat} (hD : 2 ≤ D) {P : SP} {S : SS} {Q : xQ} (s t : Int32) (h : Q (some (.int (tSubQ s t))) (wC P S)) : Cd D 93 [.ref 0, .int s, .int t] (wC P S) Q := by
  refine Cd.up hD ?_
  refine Cd.mk cdX7_sub 3 3 2 [(0, .ref 0), (1, .int s), (2, .int t)] rfl rfl rfl rfl 100 ?_
  unfold tSubQ at h
  refine s_isType (by decide) s ?_
  refine And.intro (fun h1 => ?_) (fun h1 => ?_)
  · rw [bI_eq0] at h1
    simp only [h1, Bool.false_and, cond_false] at h
    exact h
  · rw [bI_ne0] at h1
    refine s_isType (by decide) t ?_
    refine And.intro (fun h2 => ?_) (fun h2 => ?_)
    · rw [bI_ne0] at h2
      simp only [h1, h2, Bool.and_self, cond_true] at h
      refine s_isSub (by decide) s t ?_
      refine And.intro (fun h3 => ?_) (fun h3 => ?_)
      · rw [bI_eq0] at h3
        rw [h3] at h
        exact h
      · rw [bI_ne0] at h3
        rw [h3] at h
        exact h
    · rw [bI_eq0] at h2
      simp only [h1, h2, Bool.and_false, cond_false] at h
      exact h
def toldQ (P : SP) (S : SS) (w : Int32) : Int32 := bif decide (w = 0) then pN P else bif decide (w = 1) then hTh S.1 else bif decide (w = 2) then hEl S.1 else -2
set_option maxRecDepth 100000 in
set_option maxHeartbeats 1000000 in
theorem k_told {D : Nat} (hD : 1 ≤ D) {P : SP} {S : SS} {Q : xQ} (w : Int32) (h : Q (some (.int (toldQ P S w))) (wC P S)) : Cd D 94 [.ref 0, .int w] (wC P S) Q := by
  refine Cd.up hD ?_
  refine Cd.mk cdX7_told 2 3 1 [(0, .ref 0), (1, .int w)] rfl rfl rfl rfl 100 ?_
  unfold toldQ at h
  refine And.intro (fun h2 => ?_) (fun h2 => ?_)
  · simp only [decide_eq_true h2, cond_true] at h
    exact h
  · simp only [decide_eq_false h2, cond_false] at h
    refine And.intro (fun h3 => ?_) (fun h3 => ?_)
    · simp only [decide_eq_true h3, cond_true] at h
      exact h
    · simp only [decide_eq_false h3, cond_false] at h
      refine And.intro (fun h4 => ?_) (fun h4 => ?_)
      · simp only [decide_eq_true h4, cond_true] at h
        exact h
      · simp only [decide_eq_false h4, cond_false] at h
        exact h
