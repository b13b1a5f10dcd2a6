/-! the class's program -/
def pOK (P : SP) : Prop := 0 ≤ (pN P).toInt ∧ (pN P).toInt ≤ 80
def pIsNode (P : SP) (n : Int32) : Bool := !decide (n < 0) && !decide (pN P ≤ n)
def pIsList (P : SP) (n : Int32) : Bool := pIsNode P n && decide (pC P (ix n) = 10)
def pLen (P : SP) (n : Int32) : Int32 := bif pIsList P n then pL P (ix n) else 0
def isVar (v : Int32) : Bool := !decide (v < 0) && !decide (8 ≤ v)
theorem pIsNode_rng {P : SP} {n : Int32} (h : pIsNode P n = true) : 0 ≤ n.toInt ∧ n.toInt < (pN P).toInt := by
  simp only [pIsNode, Bool.and_eq_true, Bool.not_eq_true', decide_eq_false_iff_not] at h
  exact ⟨by simpa using i_not_lt h.1, i_not_le h.2⟩
theorem pIsNode_in {P : SP} {n : Int32} (hp : pOK P) (h : pIsNode P n = true) : vp_in n 80 := by
  have := pIsNode_rng h
  exact vp_in_iff.mpr ⟨this.1, by have := hp.2; omega⟩
theorem pIsList_node {P : SP} {n : Int32} (h : pIsList P n = true) : pIsNode P n = true := by
  simp only [pIsList, Bool.and_eq_true] at h
  exact h.1
theorem isVar_in {v : Int32} (h : isVar v = true) : vp_in v 8 := by
  simp only [isVar, Bool.and_eq_true, Bool.not_eq_true', decide_eq_false_iff_not] at h
  have h0 : (8 : Int32).toInt = 8 := rfl
  exact vp_in_iff.mpr ⟨by simpa using i_not_lt h.1, by have := i_not_le h.2; omega⟩
set_option maxRecDepth 100000 in
set_option maxHeartbeats 1000000 in
theorem s_isVariable {D : Nat} (hD : 1 ≤ D) {w : xW} {Q : xQ} (v : Int32) (h : Q (some (.int (bI (isVar v)))) w) : Cd D 95 [.int v] w Q := by
  refine Cd.up hD ?_
  refine Cd.mk cdX7_isVariable 1 99 1 [(0, .int v)] rfl rfl rfl rfl 1000 ?_
  unfold isVar at h
  refine And.intro (fun h1 => ?_) (fun h1 => ?_)
  · refine And.intro (Or.inl rfl) ?_
    simpa [bI, h1] using h
  · refine And.intro (fun h2 => ?_) (fun h2 => ?_)
    · refine And.intro (Or.inl rfl) ?_
      simpa [bI, h1, h2] using h
    · refine And.intro (Or.inr rfl) ?_
      simpa [bI, h1, h2] using h
set_option maxRecDepth 100000 in
set_option maxHeartbeats 1000000 in
theorem s_isNode {D : Nat} (hD : 1 ≤ D) {P : SP} {S : SS} {Q : xQ} (n : Int32) (h : Q (some (.int (bI (pIsNode P n)))) (wC P S)) : Cd D 32 [.ref 1, .int n] (wC P S) Q := by
  refine Cd.up hD ?_
  refine Cd.mk cdX4_isNode 2 1 1 [(0, .ref 1), (1, .int n)] rfl rfl rfl rfl 1000 ?_
  unfold pIsNode at h
  refine And.intro (fun h1 => ?_) (fun h1 => ?_)
  · refine And.intro (Or.inl rfl) ?_
    simpa [bI, h1] using h
  · refine And.intro (fun h2 => ?_) (fun h2 => ?_)
    · refine And.intro (Or.inl rfl) ?_
      simpa [bI, h1, h2] using h
    · refine And.intro (Or.inr rfl) ?_
      simpa [bI, h1, h2] using h
set_option maxRecDepth 100000 in
set_option maxHeartbeats 1000000 in
theorem s_isList {D : Nat} (hD : 2 ≤ D) {P : SP} {S : SS} {Q : xQ} (hp : pOK P) (n : Int32) (h : Q (some (.int (bI (pIsList P n)))) (wC P S)) : Cd D 33 [.ref 1, .int n] (wC P S) Q := by
  refine Cd.up hD ?_
  refine Cd.mk cdX4_isList 2 1 1 [(0, .ref 1), (1, .int n)] rfl rfl rfl rfl 1000 ?_
  unfold pIsList at h
  refine s_isNode (by decide) n ?_
  refine And.intro (fun h1 => ?_) (fun h1 => ?_)
  · rw [bI_eq0] at h1
    refine And.intro (Or.inl rfl) ?_
    simpa [bI, h1] using h
  · rw [bI_ne0] at h1
    refine And.intro (pIsNode_in hp h1) ?_
    refine And.intro (fun h2 => ?_) (fun h2 => ?_)
    · refine And.intro (Or.inl rfl) ?_
      simpa [bI, h1, decide_eq_false h2] using h
    · refine And.intro (Or.inr rfl) ?_
      simpa [bI, h1, decide_eq_true h2] using h
set_option maxRecDepth 100000 in
set_option maxHeartbeats 1000000 in
theorem s_lengthOfList {D : Nat} (hD : 3 ≤ D) {P : SP} {S : SS} {Q : xQ} (hp : pOK P) (n : Int32) (h : Q (some (.int (pLen P n))) (wC P S)) : Cd D 34 [.ref 1, .int n] (wC P S) Q := by
  refine Cd.up hD ?_
  refine Cd.mk cdX4_lengthOfList 2 1 1 [(0, .ref 1), (1, .int n)] rfl rfl rfl rfl 1000 ?_
  unfold pLen at h
  refine s_isList (by decide) hp n ?_
  refine And.intro (fun h1 => ?_) (fun h1 => ?_)
  · rw [bI_eq0] at h1
    simp only [h1, cond_false] at h
    exact h
  · rw [bI_ne0] at h1
    refine And.intro (pIsNode_in hp (pIsList_node h1)) ?_
    simp only [h1, cond_true] at h
    exact h
def pAt (P : SP) : Nat → Int32 → Int32
  | 0, x => x
  | n + 1, x => bif pIsList P x then pAt P n (pa P (ix x)) else x
def pEl (P : SP) (x : Int32) : Int32 := bif pIsList P x then pb P (ix x) else -1
def pNth (P : SP) (l i : Int32) : Int32 := pEl P (pAt P ((pLen P l - 1).toInt - i.toInt).toNat l)
set_option maxRecDepth 100000 in
set_option maxHeartbeats 1000000 in
theorem s_nodeOfList_38 {d : Nat} (hd : 2 ≤ d) {P : SP} {S : SS} {Q : xQ} (hp : pOK P) (l i x b : Int32) (h : Q (some (.int (pEl P x))) (wC P S)) : Ev (Cd d) cdX4_nodeOfList Q 38 [(0, .ref 1), (1, .int l), (2, .int i), (3, .int x), (4, .int b)] [] (wC P S) := by
  refine Ev.go (Cd.mono d) [] 100 ?_
  unfold pEl at h
  refine s_isList (by omega) hp x ?_
  refine And.intro (fun h1 => ?_) (fun h1 => ?_)
  · rw [bI_eq0] at h1
    simp only [h1, cond_false] at h
    exact h
  · rw [bI_ne0] at h1
    refine And.intro (pIsNode_in hp (pIsList_node h1)) ?_
    simp only [h1, cond_true] at h
    exact h
set_option maxRecDepth 100000 in
set_option maxHeartbeats 1000000 in
theorem s_nodeOfList_loop {d : Nat} (hd : 2 ≤ d) {P : SP} {S : SS} {Q : xQ} (hp : pOK P) (l i : Int32) : ∀ (n : Nat) (x b : Int32), (b.toInt - i.toInt).toNat = n → Q (some (.int (pEl P (pAt P n x)))) (wC P S) → Ev (Cd d) cdX4_nodeOfList Q 11 [(0, .ref 1), (1, .int l), (2, .int i), (3, .int x), (4, .int b)] [] (wC P S)
  | 0, x, b, hn, h => by
    refine Ev.go (Cd.mono d) [38] 100 ?_
    refine And.intro (fun _ => ?_) (fun h1 => ?_)
    · exact s_nodeOfList_38 hd hp l i x b h
    · have := i_not_le h1
      omega
  | n + 1, x, b, hn, h => by
    refine Ev.go (Cd.mono d) [11, 38] 100 ?_
    refine And.intro (fun h1 => ?_) (fun h1 => ?_)
    · have := i_le h1
      omega
    · unfold pAt at h
      refine s_isList (by omega) hp x ?_
      refine And.intro (fun h2 => ?_) (fun h2 => ?_)
      · rw [bI_eq0] at h2
        simp only [h2, cond_false] at h
        exact s_nodeOfList_38 hd hp l i x b h
      · rw [bI_ne0] at h2
        simp only [h2, cond_true] at h
        refine And.intro (pIsNode_in hp (pIsList_node h2)) ?_
        have e : (-1 : Int32).toInt = -1 := rfl
        have h3 := i_not_le h1
        have := i_rng i
        have := i_rng b
        have e2 : (b + -1).toInt = b.toInt - 1 := by rw [i_add] <;> omega
        exact s_nodeOfList_loop hd hp l i n (pa P (ix x)) (b + -1) (by omega) h
set_option maxRecDepth 100000 in
set_option maxHeartbeats 1000000 in
theorem s_nodeOfList {D : Nat} (hD : 4 ≤ D) {P : SP} {S : SS} {Q : xQ} (hp : pOK P) (l i : Int32) (h : Q (some (.int (pNth P l i))) (wC P S)) : Cd D 35 [.ref 1, .int l, .int i] (wC P S) Q := by
  refine Cd.up hD ?_
  refine Cd.mk cdX4_nodeOfList 5 1 2 [(0, .ref 1), (1, .int l), (2, .int i)] rfl rfl rfl rfl 0 ?_
  refine Ev.go (Cd.mono 3) [11] 100 ?_
  refine s_lengthOfList (by decide) hp l ?_
  exact s_nodeOfList_loop (by decide) hp l i _ l (pLen P l - 1) rfl h
set_option maxRecDepth 100000 in
set_option maxHeartbeats 1000000 in
theorem s_areNodes {D : Nat} (hD : 2 ≤ D) {P : SP} {S : SS} {Q : xQ} (a b c : Int32) (h : Q (some (.int (bI (pIsNode P a && (pIsNode P b && pIsNode P c))))) (wC P S)) : Cd D 39 [.ref 1, .int a, .int b, .int c] (wC P S) Q := by
  refine Cd.up hD ?_
  refine Cd.mk cdX4_areNodes 4 1 3 [(0, .ref 1), (1, .int a), (2, .int b), (3, .int c)] rfl rfl rfl rfl 1000 ?_
  refine s_isNode (by decide) a ?_
  refine And.intro (fun h1 => ?_) (fun h1 => ?_)
  · rw [bI_eq0] at h1
    refine And.intro (Or.inl rfl) ?_
    simpa [bI, h1] using h
  · rw [bI_ne0] at h1
    refine s_isNode (by decide) b ?_
    refine And.intro (fun h2 => ?_) (fun h2 => ?_)
    · rw [bI_eq0] at h2
      refine And.intro (Or.inl rfl) ?_
      simpa [bI, h1, h2] using h
    · rw [bI_ne0] at h2
      refine s_isNode (by decide) c ?_
      refine And.intro (fun h3 => ?_) (fun h3 => ?_)
      · rw [bI_eq0] at h3
        refine And.intro (Or.inl rfl) ?_
        simpa [bI, h1, h2, h3] using h
      · rw [bI_ne0] at h3
        refine And.intro (Or.inr rfl) ?_
        simpa [bI, h1, h2, h3] using h
def pIsLN (P : SP) (n : Int32) : Bool := decide (n = -1) || pIsList P n
set_option maxRecDepth 100000 in
set_option maxHeartbeats 1000000 in
theorem s_isListOrNone {D : Nat} (hD : 3 ≤ D) {P : SP} {S : SS} {Q : xQ} (hp : pOK P) (n : Int32) (h : Q (some (.int (bI (pIsLN P n)))) (wC P S)) : Cd D 40 [.ref 1, .int n] (wC P S) Q := by
  refine Cd.up hD ?_
  refine Cd.mk cdX4_isListOrNone 2 1 1 [(0, .ref 1), (1, .int n)] rfl rfl rfl rfl 1000 ?_
  unfold pIsLN at h
  refine And.intro (fun h1 => ?_) (fun h1 => ?_)
  · refine And.intro (Or.inr rfl) ?_
    simp only [decide_eq_true h1, Bool.true_or] at h
    exact h
  · simp only [decide_eq_false h1, Bool.false_or] at h
    refine s_isList (by decide) hp n ?_
    refine And.intro (fun h2 => ?_) (fun h2 => ?_)
    · rw [bI_eq0] at h2
      refine And.intro (Or.inl rfl) ?_
      rw [h2] at h
      exact h
    · rw [bI_ne0] at h2
      refine And.intro (Or.inr rfl) ?_
      rw [h2] at h
      exact h
def pSizes (P : SP) (k b c d : Int32) : Bool := pIsNode P b && (bif decide (c = -1) then decide (d = -1) else (!decide (k < 2) && (pIsNode P c && (decide (d = -1) || (!decide (k ≤ 2) && pIsNode P d)))))
set_option maxRecDepth 100000 in
set_option maxHeartbeats 1000000 in
theorem s_sizesFit {D : Nat} (hD : 2 ≤ D) {P : SP} {S : SS} {Q : xQ} (k b c d : Int32) (h : Q (some (.int (bI (pSizes P k b c d)))) (wC P S)) : Cd D 38 [.ref 1, .int k, .int b, .int c, .int d] (wC P S) Q := by
  refine Cd.up hD ?_
  refine Cd.mk cdX4_sizesFit 5 1 4 [(0, .ref 1), (1, .int k), (2, .int b), (3, .int c), (4, .int d)] rfl rfl rfl rfl 1000 ?_
  unfold pSizes at h
  refine s_isNode (by decide) b ?_
  refine And.intro (fun h1 => ?_) (fun h1 => ?_)
  · rw [bI_ne0] at h1
    simp only [h1, Bool.true_and] at h
    refine And.intro (fun h2 => ?_) (fun h2 => ?_)
    · simp only [decide_eq_false h2, cond_false] at h
      refine And.intro (fun h3 => ?_) (fun h3 => ?_)
      · simp only [decide_eq_true h3, Bool.not_true, Bool.false_and] at h
        refine And.intro (Or.inl rfl) ?_
        exact h
      · simp only [decide_eq_false h3, Bool.not_false, Bool.true_and] at h
        refine s_isNode (by decide) c ?_
        refine And.intro (fun h4 => ?_) (fun h4 => ?_)
        · rw [bI_ne0] at h4
          simp only [h4, Bool.true_and] at h
          refine And.intro (fun h5 => ?_) (fun h5 => ?_)
          · simp only [decide_eq_true h5, Bool.true_or] at h
            refine And.intro (Or.inr rfl) ?_
            exact h
          · simp only [decide_eq_false h5, Bool.false_or] at h
            refine And.intro (fun h6 => ?_) (fun h6 => ?_)
            · simp only [decide_eq_true h6, Bool.not_true, Bool.false_and] at h
              refine And.intro (Or.inl rfl) ?_
              exact h
            · simp only [decide_eq_false h6, Bool.not_false, Bool.true_and] at h
              refine s_isNode (by decide) d ?_
              refine And.intro (fun h7 => ?_) (fun h7 => ?_)
              · rw [bI_eq0] at h7
                rw [h7] at h
                refine And.intro (Or.inl rfl) ?_
                exact h
              · rw [bI_ne0] at h7
                rw [h7] at h
                refine And.intro (Or.inr rfl) ?_
                exact h
        · rw [bI_eq0] at h4
          simp only [h4, Bool.false_and] at h
          refine And.intro (Or.inl rfl) ?_
          exact h
    · simp only [decide_eq_true h2, cond_true] at h
      refine And.intro (fun h3 => ?_) (fun h3 => ?_)
      · simp only [decide_eq_false h3] at h
        refine And.intro (Or.inl rfl) ?_
        exact h
      · simp only [decide_eq_true h3] at h
        refine And.intro (Or.inr rfl) ?_
        exact h
  · rw [bI_eq0] at h1
    simp only [h1, Bool.false_and] at h
    refine And.intro (Or.inl rfl) ?_
    exact h
