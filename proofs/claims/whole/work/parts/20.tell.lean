def pFitsT (P : SP) (code t b c d : Int32) : Bool :=
  bif decide (code = 8) then tIsInst t
  else bif decide (code = 9) then tIsArr t && pSizes P (t / 16) b c d
  else bif decide (code = 10) then false
  else bif decide (code = 11) then tIsArr t && pIsLN P b
  else bif decide (code = 12) then false
  else bif decide (code = 13) then false
  else bif decide (code = 14) then false
  else bif decide (code = 15) then false
  else bif decide (code = 16) then false
  else bif decide (code = 17) then false
  else bif decide (code = 18) then tIsType t && pIsNode P b
  else bif decide (code = 19) then tIsType t && (!tIsNum t && pIsNode P b)
  else bif decide (code = 20) then false
  else bif decide (code = 21) then false
  else bif decide (code = 22) then tIsArr t && pIsLN P b
  else false
set_option maxRecDepth 100000 in
set_option maxHeartbeats 1000000 in
theorem s_fitsWithType {D : Nat} (hD : 4 ≤ D) {P : SP} {S : SS} {Q : xQ} (hp : pOK P) (code t b c d : Int32) (h : Q (some (.int (bI (pFitsT P code t b c d)))) (wC P S)) : Cd D 37 [.ref 1, .int code, .int t, .int b, .int c, .int d] (wC P S) Q := by
  refine Cd.up hD ?_
  refine Cd.mk cdX4_fitsWithType 6 1 5 [(0, .ref 1), (1, .int code), (2, .int t), (3, .int b), (4, .int c), (5, .int d)] rfl rfl rfl rfl 1000 ?_
  unfold pFitsT at h
  refine And.intro (fun hc8 => ?_) (fun hc8 => ?_)
  · simp only [decide_eq_true hc8, cond_true, cond_false] at h
    refine s_isOfInstances (by decide) t ?_
    refine And.intro (bI01 _) ?_
    exact h
  refine And.intro (fun hc9 => ?_) (fun hc9 => ?_)
  · simp only [decide_eq_false hc8, decide_eq_true hc9, cond_true, cond_false] at h
    refine s_isOfArrays (by decide) t ?_
    refine And.intro (fun h1 => ?_) (fun h1 => ?_)
    · rw [bI_eq0] at h1
      simp only [h1, Bool.false_and] at h
      refine And.intro (Or.inl rfl) ?_
      exact h
    · rw [bI_ne0] at h1
      simp only [h1, Bool.true_and] at h
      refine And.intro (by decide) ?_
      refine s_sizesFit (by decide) _ _ _ _ ?_
      refine And.intro (fun h2 => ?_) (fun h2 => ?_)
      · rw [bI_eq0] at h2
        rw [h2] at h
        refine And.intro (Or.inl rfl) ?_
        exact h
      · rw [bI_ne0] at h2
        rw [h2] at h
        refine And.intro (Or.inr rfl) ?_
        exact h
  refine And.intro (fun hc10 => ?_) (fun hc10 => ?_)
  · simp only [decide_eq_false hc8, decide_eq_false hc9, decide_eq_true hc10, cond_true, cond_false] at h
    refine And.intro (Or.inl rfl) ?_
    exact h
  refine And.intro (fun hc11 => ?_) (fun hc11 => ?_)
  · simp only [decide_eq_false hc8, decide_eq_false hc9, decide_eq_false hc10, decide_eq_true hc11, cond_true, cond_false] at h
    refine s_isOfArrays (by decide) t ?_
    refine And.intro (fun h1 => ?_) (fun h1 => ?_)
    · rw [bI_eq0] at h1
      simp only [h1, Bool.false_and] at h
      refine And.intro (Or.inl rfl) ?_
      exact h
    · rw [bI_ne0] at h1
      simp only [h1, Bool.true_and] at h
      refine s_isListOrNone (by decide) hp b ?_
      refine And.intro (fun h2 => ?_) (fun h2 => ?_)
      · rw [bI_eq0] at h2
        rw [h2] at h
        refine And.intro (Or.inl rfl) ?_
        exact h
      · rw [bI_ne0] at h2
        rw [h2] at h
        refine And.intro (Or.inr rfl) ?_
        exact h
  refine And.intro (fun hc12 => ?_) (fun hc12 => ?_)
  · simp only [decide_eq_false hc8, decide_eq_false hc9, decide_eq_false hc10, decide_eq_false hc11, decide_eq_true hc12, cond_true, cond_false] at h
    refine And.intro (Or.inl rfl) ?_
    exact h
  refine And.intro (fun hc13 => ?_) (fun hc13 => ?_)
  · simp only [decide_eq_false hc8, decide_eq_false hc9, decide_eq_false hc10, decide_eq_false hc11, decide_eq_false hc12, decide_eq_true hc13, cond_true, cond_false] at h
    refine And.intro (Or.inl rfl) ?_
    exact h
  refine And.intro (fun hc14 => ?_) (fun hc14 => ?_)
  · simp only [decide_eq_false hc8, decide_eq_false hc9, decide_eq_false hc10, decide_eq_false hc11, decide_eq_false hc12, decide_eq_false hc13, decide_eq_true hc14, cond_true, cond_false] at h
    refine And.intro (Or.inl rfl) ?_
    exact h
  refine And.intro (fun hc15 => ?_) (fun hc15 => ?_)
  · simp only [decide_eq_false hc8, decide_eq_false hc9, decide_eq_false hc10, decide_eq_false hc11, decide_eq_false hc12, decide_eq_false hc13, decide_eq_false hc14, decide_eq_true hc15, cond_true, cond_false] at h
    refine And.intro (Or.inl rfl) ?_
    exact h
  refine And.intro (fun hc16 => ?_) (fun hc16 => ?_)
  · simp only [decide_eq_false hc8, decide_eq_false hc9, decide_eq_false hc10, decide_eq_false hc11, decide_eq_false hc12, decide_eq_false hc13, decide_eq_false hc14, decide_eq_false hc15, decide_eq_true hc16, cond_true, cond_false] at h
    refine And.intro (Or.inl rfl) ?_
    exact h
  refine And.intro (fun hc17 => ?_) (fun hc17 => ?_)
  · simp only [decide_eq_false hc8, decide_eq_false hc9, decide_eq_false hc10, decide_eq_false hc11, decide_eq_false hc12, decide_eq_false hc13, decide_eq_false hc14, decide_eq_false hc15, decide_eq_false hc16, decide_eq_true hc17, cond_true, cond_false] at h
    refine And.intro (Or.inl rfl) ?_
    exact h
  refine And.intro (fun hc18 => ?_) (fun hc18 => ?_)
  · simp only [decide_eq_false hc8, decide_eq_false hc9, decide_eq_false hc10, decide_eq_false hc11, decide_eq_false hc12, decide_eq_false hc13, decide_eq_false hc14, decide_eq_false hc15, decide_eq_false hc16, decide_eq_false hc17, decide_eq_true hc18, cond_true, cond_false] at h
    refine s_isType (by decide) t ?_
    refine And.intro (fun h1 => ?_) (fun h1 => ?_)
    · rw [bI_eq0] at h1
      simp only [h1, Bool.false_and] at h
      refine And.intro (Or.inl rfl) ?_
      exact h
    · rw [bI_ne0] at h1
      simp only [h1, Bool.true_and] at h
      refine s_isNode (by decide) b ?_
      refine And.intro (fun h2 => ?_) (fun h2 => ?_)
      · rw [bI_eq0] at h2
        rw [h2] at h
        refine And.intro (Or.inl rfl) ?_
        exact h
      · rw [bI_ne0] at h2
        rw [h2] at h
        refine And.intro (Or.inr rfl) ?_
        exact h
  refine And.intro (fun hc19 => ?_) (fun hc19 => ?_)
  · simp only [decide_eq_false hc8, decide_eq_false hc9, decide_eq_false hc10, decide_eq_false hc11, decide_eq_false hc12, decide_eq_false hc13, decide_eq_false hc14, decide_eq_false hc15, decide_eq_false hc16, decide_eq_false hc17, decide_eq_false hc18, decide_eq_true hc19, cond_true, cond_false] at h
    refine s_isType (by decide) t ?_
    refine And.intro (fun h1 => ?_) (fun h1 => ?_)
    · rw [bI_eq0] at h1
      simp only [h1, Bool.false_and] at h
      refine And.intro (Or.inl rfl) ?_
      exact h
    · rw [bI_ne0] at h1
      simp only [h1, Bool.true_and] at h
      refine s_isOfNumbers (by decide) t ?_
      refine And.intro (fun h2 => ?_) (fun h2 => ?_)
      · rw [bI_ne0] at h2
        simp only [h2, Bool.not_true, Bool.false_and] at h
        refine And.intro (Or.inl rfl) ?_
        exact h
      · rw [bI_eq0] at h2
        simp only [h2, Bool.not_false, Bool.true_and] at h
        refine s_isNode (by decide) b ?_
        refine And.intro (fun h3 => ?_) (fun h3 => ?_)
        · rw [bI_eq0] at h3
          rw [h3] at h
          refine And.intro (Or.inl rfl) ?_
          exact h
        · rw [bI_ne0] at h3
          rw [h3] at h
          refine And.intro (Or.inr rfl) ?_
          exact h
  refine And.intro (fun hc20 => ?_) (fun hc20 => ?_)
  · simp only [decide_eq_false hc8, decide_eq_false hc9, decide_eq_false hc10, decide_eq_false hc11, decide_eq_false hc12, decide_eq_false hc13, decide_eq_false hc14, decide_eq_false hc15, decide_eq_false hc16, decide_eq_false hc17, decide_eq_false hc18, decide_eq_false hc19, decide_eq_true hc20, cond_true, cond_false] at h
    refine And.intro (Or.inl rfl) ?_
    exact h
  refine And.intro (fun hc21 => ?_) (fun hc21 => ?_)
  · simp only [decide_eq_false hc8, decide_eq_false hc9, decide_eq_false hc10, decide_eq_false hc11, decide_eq_false hc12, decide_eq_false hc13, decide_eq_false hc14, decide_eq_false hc15, decide_eq_false hc16, decide_eq_false hc17, decide_eq_false hc18, decide_eq_false hc19, decide_eq_false hc20, decide_eq_true hc21, cond_true, cond_false] at h
    refine And.intro (Or.inl rfl) ?_
    exact h
  refine And.intro (fun hc22 => ?_) (fun hc22 => ?_)
  · simp only [decide_eq_false hc8, decide_eq_false hc9, decide_eq_false hc10, decide_eq_false hc11, decide_eq_false hc12, decide_eq_false hc13, decide_eq_false hc14, decide_eq_false hc15, decide_eq_false hc16, decide_eq_false hc17, decide_eq_false hc18, decide_eq_false hc19, decide_eq_false hc20, decide_eq_false hc21, decide_eq_true hc22, cond_true, cond_false] at h
    refine s_isOfArrays (by decide) t ?_
    refine And.intro (fun h1 => ?_) (fun h1 => ?_)
    · rw [bI_eq0] at h1
      simp only [h1, Bool.false_and] at h
      refine And.intro (Or.inl rfl) ?_
      exact h
    · rw [bI_ne0] at h1
      simp only [h1, Bool.true_and] at h
      refine s_isListOrNone (by decide) hp b ?_
      refine And.intro (fun h2 => ?_) (fun h2 => ?_)
      · rw [bI_eq0] at h2
        rw [h2] at h
        refine And.intro (Or.inl rfl) ?_
        exact h
      · rw [bI_ne0] at h2
        rw [h2] at h
        refine And.intro (Or.inr rfl) ?_
        exact h
  simp only [decide_eq_false hc8, decide_eq_false hc9, decide_eq_false hc10, decide_eq_false hc11, decide_eq_false hc12, decide_eq_false hc13, decide_eq_false hc14, decide_eq_false hc15, decide_eq_false hc16, decide_eq_false hc17, decide_eq_false hc18, decide_eq_false hc19, decide_eq_false hc20, decide_eq_false hc21, decide_eq_false hc22, cond_true, cond_false] at h
  refine And.intro (Or.inl rfl) ?_
  exact h
def pFits (P : SP) (code a b c d : Int32) : Bool :=
  bif decide (code = 0) then true
  else bif decide (code = 1) then true
  else bif decide (code = 2) then isVar a
  else bif decide (code = 3) then isVar a && pIsNode P b
  else bif decide (code = 4) then pIsNode P b
  else bif decide (code = 5) then true
  else bif decide (code = 6) then pIsNode P a && pIsNode P b
  else bif decide (code = 7) then pIsNode P a && pIsNode P b
  else bif decide (code = 8) then pFitsT P code a b c d
  else bif decide (code = 9) then pFitsT P code a b c d
  else bif decide (code = 10) then pIsLN P a && pIsNode P b
  else bif decide (code = 11) then pFitsT P code a b c d
  else bif decide (code = 12) then pIsNode P a
  else bif decide (code = 13) then pIsNode P a && pIsNode P b
  else bif decide (code = 14) then pIsNode P a && (pIsNode P b && pIsNode P c)
  else bif decide (code = 15) then pIsNode P a && (pIsNode P b && pIsNode P c)
  else bif decide (code = 16) then pIsNode P a && pIsNode P b
  else bif decide (code = 17) then pIsNode P a
  else bif decide (code = 18) then pFitsT P code a b c d
  else bif decide (code = 19) then pFitsT P code a b c d
  else bif decide (code = 20) then pIsNode P a && pIsNode P b
  else bif decide (code = 21) then pIsNode P a && (isVar b && pIsNode P c)
  else bif decide (code = 22) then pFitsT P code a b c d
  else bif decide (code = 23) then pIsNode P a && pIsNode P b
  else bif decide (code = 24) then pIsNode P a && (pIsNode P b && pIsNode P c)
  else bif decide (code = 25) then pIsNode P a && (pIsNode P b && isVar c)
  else bif decide (code = 26) then (pIsNode P a && (pIsNode P b && pIsNode P c)) && decide (pLen P d = 2)
  else pFitsT P code a b c d
set_option maxRecDepth 100000 in
set_option maxHeartbeats 1000000 in
theorem s_fits {D : Nat} (hD : 5 ≤ D) {P : SP} {S : SS} {Q : xQ} (hp : pOK P) (code a b c d : Int32) (h : Q (some (.int (bI (pFits P code a b c d)))) (wC P S)) : Cd D 36 [.ref 1, .int code, .int a, .int b, .int c, .int d] (wC P S) Q := by
  refine Cd.up hD ?_
  refine Cd.mk cdX4_fits 6 1 5 [(0, .ref 1), (1, .int code), (2, .int a), (3, .int b), (4, .int c), (5, .int d)] rfl rfl rfl rfl 1000 ?_
  unfold pFits at h
  refine And.intro (fun hc0 => ?_) (fun hc0 => ?_)
  · simp only [decide_eq_true hc0, cond_true, cond_false] at h
    refine And.intro (Or.inr rfl) ?_
    exact h
  refine And.intro (fun hc1 => ?_) (fun hc1 => ?_)
  · simp only [decide_eq_false hc0, decide_eq_true hc1, cond_true, cond_false] at h
    refine And.intro (Or.inr rfl) ?_
    exact h
  refine And.intro (fun hc2 => ?_) (fun hc2 => ?_)
  · simp only [decide_eq_false hc0, decide_eq_false hc1, decide_eq_true hc2, cond_true, cond_false] at h
    refine s_isVariable (by decide) a ?_
    refine And.intro (bI01 _) ?_
    exact h
  refine And.intro (fun hc3 => ?_) (fun hc3 => ?_)
  · simp only [decide_eq_false hc0, decide_eq_false hc1, decide_eq_false hc2, decide_eq_true hc3, cond_true, cond_false] at h
    refine s_isVariable (by decide) a ?_
    refine And.intro (fun g0 => ?_) (fun g0 => ?_)
    · rw [bI_eq0] at g0
      simp only [g0, Bool.false_and] at h
      refine And.intro (Or.inl rfl) ?_
      exact h
    · rw [bI_ne0] at g0
      simp only [g0, Bool.true_and] at h
      refine s_isNode (by decide) b ?_
      refine And.intro (fun g1 => ?_) (fun g1 => ?_)
      · rw [bI_eq0] at g1
        rw [g1] at h
        refine And.intro (Or.inl rfl) ?_
        exact h
      · rw [bI_ne0] at g1
        rw [g1] at h
        refine And.intro (Or.inr rfl) ?_
        exact h
  refine And.intro (fun hc4 => ?_) (fun hc4 => ?_)
  · simp only [decide_eq_false hc0, decide_eq_false hc1, decide_eq_false hc2, decide_eq_false hc3, decide_eq_true hc4, cond_true, cond_false] at h
    refine s_isNode (by decide) b ?_
    refine And.intro (bI01 _) ?_
    exact h
  refine And.intro (fun hc5 => ?_) (fun hc5 => ?_)
  · simp only [decide_eq_false hc0, decide_eq_false hc1, decide_eq_false hc2, decide_eq_false hc3, decide_eq_false hc4, decide_eq_true hc5, cond_true, cond_false] at h
    refine And.intro (Or.inr rfl) ?_
    exact h
  refine And.intro (fun hc6 => ?_) (fun hc6 => ?_)
  · simp only [decide_eq_false hc0, decide_eq_false hc1, decide_eq_false hc2, decide_eq_false hc3, decide_eq_false hc4, decide_eq_false hc5, decide_eq_true hc6, cond_true, cond_false] at h
    refine s_isNode (by decide) a ?_
    refine And.intro (fun g0 => ?_) (fun g0 => ?_)
    · rw [bI_eq0] at g0
      simp only [g0, Bool.false_and] at h
      refine And.intro (Or.inl rfl) ?_
      exact h
    · rw [bI_ne0] at g0
      simp only [g0, Bool.true_and] at h
      refine s_isNode (by decide) b ?_
      refine And.intro (fun g1 => ?_) (fun g1 => ?_)
      · rw [bI_eq0] at g1
        rw [g1] at h
        refine And.intro (Or.inl rfl) ?_
        exact h
      · rw [bI_ne0] at g1
        rw [g1] at h
        refine And.intro (Or.inr rfl) ?_
        exact h
  refine And.intro (fun hc7 => ?_) (fun hc7 => ?_)
  · simp only [decide_eq_false hc0, decide_eq_false hc1, decide_eq_false hc2, decide_eq_false hc3, decide_eq_false hc4, decide_eq_false hc5, decide_eq_false hc6, decide_eq_true hc7, cond_true, cond_false] at h
    refine s_isNode (by decide) a ?_
    refine And.intro (fun g0 => ?_) (fun g0 => ?_)
    · rw [bI_eq0] at g0
      simp only [g0, Bool.false_and] at h
      refine And.intro (Or.inl rfl) ?_
      exact h
    · rw [bI_ne0] at g0
      simp only [g0, Bool.true_and] at h
      refine s_isNode (by decide) b ?_
      refine And.intro (fun g1 => ?_) (fun g1 => ?_)
      · rw [bI_eq0] at g1
        rw [g1] at h
        refine And.intro (Or.inl rfl) ?_
        exact h
      · rw [bI_ne0] at g1
        rw [g1] at h
        refine And.intro (Or.inr rfl) ?_
        exact h
  refine And.intro (fun hc8 => ?_) (fun hc8 => ?_)
  · simp only [decide_eq_false hc0, decide_eq_false hc1, decide_eq_false hc2, decide_eq_false hc3, decide_eq_false hc4, decide_eq_false hc5, decide_eq_false hc6, decide_eq_false hc7, decide_eq_true hc8, cond_true, cond_false] at h
    refine s_fitsWithType (by decide) hp _ _ _ _ _ ?_
    refine And.intro (bI01 _) ?_
    exact h
  refine And.intro (fun hc9 => ?_) (fun hc9 => ?_)
  · simp only [decide_eq_false hc0, decide_eq_false hc1, decide_eq_false hc2, decide_eq_false hc3, decide_eq_false hc4, decide_eq_false hc5, decide_eq_false hc6, decide_eq_false hc7, decide_eq_false hc8, decide_eq_true hc9, cond_true, cond_false] at h
    refine s_fitsWithType (by decide) hp _ _ _ _ _ ?_
    refine And.intro (bI01 _) ?_
    exact h
  refine And.intro (fun hc10 => ?_) (fun hc10 => ?_)
  · simp only [decide_eq_false hc0, decide_eq_false hc1, decide_eq_false hc2, decide_eq_false hc3, decide_eq_false hc4, decide_eq_false hc5, decide_eq_false hc6, decide_eq_false hc7, decide_eq_false hc8, decide_eq_false hc9, decide_eq_true hc10, cond_true, cond_false] at h
    refine s_isListOrNone (by decide) hp a ?_
    refine And.intro (fun g0 => ?_) (fun g0 => ?_)
    · rw [bI_eq0] at g0
      simp only [g0, Bool.false_and] at h
      refine And.intro (Or.inl rfl) ?_
      exact h
    · rw [bI_ne0] at g0
      simp only [g0, Bool.true_and] at h
      refine s_isNode (by decide) b ?_
      refine And.intro (fun g1 => ?_) (fun g1 => ?_)
      · rw [bI_eq0] at g1
        rw [g1] at h
        refine And.intro (Or.inl rfl) ?_
        exact h
      · rw [bI_ne0] at g1
        rw [g1] at h
        refine And.intro (Or.inr rfl) ?_
        exact h
  refine And.intro (fun hc11 => ?_) (fun hc11 => ?_)
  · simp only [decide_eq_false hc0, decide_eq_false hc1, decide_eq_false hc2, decide_eq_false hc3, decide_eq_false hc4, decide_eq_false hc5, decide_eq_false hc6, decide_eq_false hc7, decide_eq_false hc8, decide_eq_false hc9, decide_eq_false hc10, decide_eq_true hc11, cond_true, cond_false] at h
    refine s_fitsWithType (by decide) hp _ _ _ _ _ ?_
    refine And.intro (bI01 _) ?_
    exact h
  refine And.intro (fun hc12 => ?_) (fun hc12 => ?_)
  · simp only [decide_eq_false hc0, decide_eq_false hc1, decide_eq_false hc2, decide_eq_false hc3, decide_eq_false hc4, decide_eq_false hc5, decide_eq_false hc6, decide_eq_false hc7, decide_eq_false hc8, decide_eq_false hc9, decide_eq_false hc10, decide_eq_false hc11, decide_eq_true hc12, cond_true, cond_false] at h
    refine s_isNode (by decide) a ?_
    refine And.intro (bI01 _) ?_
    exact h
  refine And.intro (fun hc13 => ?_) (fun hc13 => ?_)
  · simp only [decide_eq_false hc0, decide_eq_false hc1, decide_eq_false hc2, decide_eq_false hc3, decide_eq_false hc4, decide_eq_false hc5, decide_eq_false hc6, decide_eq_false hc7, decide_eq_false hc8, decide_eq_false hc9, decide_eq_false hc10, decide_eq_false hc11, decide_eq_false hc12, decide_eq_true hc13, cond_true, cond_false] at h
    refine s_isNode (by decide) a ?_
    refine And.intro (fun g0 => ?_) (fun g0 => ?_)
    · rw [bI_eq0] at g0
      simp only [g0, Bool.false_and] at h
      refine And.intro (Or.inl rfl) ?_
      exact h
    · rw [bI_ne0] at g0
      simp only [g0, Bool.true_and] at h
      refine s_isNode (by decide) b ?_
      refine And.intro (fun g1 => ?_) (fun g1 => ?_)
      · rw [bI_eq0] at g1
        rw [g1] at h
        refine And.intro (Or.inl rfl) ?_
        exact h
      · rw [bI_ne0] at g1
        rw [g1] at h
        refine And.intro (Or.inr rfl) ?_
        exact h
  refine And.intro (fun hc14 => ?_) (fun hc14 => ?_)
  · simp only [decide_eq_false hc0, decide_eq_false hc1, decide_eq_false hc2, decide_eq_false hc3, decide_eq_false hc4, decide_eq_false hc5, decide_eq_false hc6, decide_eq_false hc7, decide_eq_false hc8, decide_eq_false hc9, decide_eq_false hc10, decide_eq_false hc11, decide_eq_false hc12, decide_eq_false hc13, decide_eq_true hc14, cond_true, cond_false] at h
    refine s_areNodes (by decide) _ _ _ ?_
    refine And.intro (bI01 _) ?_
    exact h
  refine And.intro (fun hc15 => ?_) (fun hc15 => ?_)
  · simp only [decide_eq_false hc0, decide_eq_false hc1, decide_eq_false hc2, decide_eq_false hc3, decide_eq_false hc4, decide_eq_false hc5, decide_eq_false hc6, decide_eq_false hc7, decide_eq_false hc8, decide_eq_false hc9, decide_eq_false hc10, decide_eq_false hc11, decide_eq_false hc12, decide_eq_false hc13, decide_eq_false hc14, decide_eq_true hc15, cond_true, cond_false] at h
    refine s_areNodes (by decide) _ _ _ ?_
    refine And.intro (bI01 _) ?_
    exact h
  refine And.intro (fun hc16 => ?_) (fun hc16 => ?_)
  · simp only [decide_eq_false hc0, decide_eq_false hc1, decide_eq_false hc2, decide_eq_false hc3, decide_eq_false hc4, decide_eq_false hc5, decide_eq_false hc6, decide_eq_false hc7, decide_eq_false hc8, decide_eq_false hc9, decide_eq_false hc10, decide_eq_false hc11, decide_eq_false hc12, decide_eq_false hc13, decide_eq_false hc14, decide_eq_false hc15, decide_eq_true hc16, cond_true, cond_false] at h
    refine s_isNode (by decide) a ?_
    refine And.intro (fun g0 => ?_) (fun g0 => ?_)
    · rw [bI_eq0] at g0
      simp only [g0, Bool.false_and] at h
      refine And.intro (Or.inl rfl) ?_
      exact h
    · rw [bI_ne0] at g0
      simp only [g0, Bool.true_and] at h
      refine s_isNode (by decide) b ?_
      refine And.intro (fun g1 => ?_) (fun g1 => ?_)
      · rw [bI_eq0] at g1
        rw [g1] at h
        refine And.intro (Or.inl rfl) ?_
        exact h
      · rw [bI_ne0] at g1
        rw [g1] at h
        refine And.intro (Or.inr rfl) ?_
        exact h
  refine And.intro (fun hc17 => ?_) (fun hc17 => ?_)
  · simp only [decide_eq_false hc0, decide_eq_false hc1, decide_eq_false hc2, decide_eq_false hc3, decide_eq_false hc4, decide_eq_false hc5, decide_eq_false hc6, decide_eq_false hc7, decide_eq_false hc8, decide_eq_false hc9, decide_eq_false hc10, decide_eq_false hc11, decide_eq_false hc12, decide_eq_false hc13, decide_eq_false hc14, decide_eq_false hc15, decide_eq_false hc16, decide_eq_true hc17, cond_true, cond_false] at h
    refine s_isNode (by decide) a ?_
    refine And.intro (bI01 _) ?_
    exact h
  refine And.intro (fun hc18 => ?_) (fun hc18 => ?_)
  · simp only [decide_eq_false hc0, decide_eq_false hc1, decide_eq_false hc2, decide_eq_false hc3, decide_eq_false hc4, decide_eq_false hc5, decide_eq_false hc6, decide_eq_false hc7, decide_eq_false hc8, decide_eq_false hc9, decide_eq_false hc10, decide_eq_false hc11, decide_eq_false hc12, decide_eq_false hc13, decide_eq_false hc14, decide_eq_false hc15, decide_eq_false hc16, decide_eq_false hc17, decide_eq_true hc18, cond_true, cond_false] at h
    refine s_fitsWithType (by decide) hp _ _ _ _ _ ?_
    refine And.intro (bI01 _) ?_
    exact h
  refine And.intro (fun hc19 => ?_) (fun hc19 => ?_)
  · simp only [decide_eq_false hc0, decide_eq_false hc1, decide_eq_false hc2, decide_eq_false hc3, decide_eq_false hc4, decide_eq_false hc5, decide_eq_false hc6, decide_eq_false hc7, decide_eq_false hc8, decide_eq_false hc9, decide_eq_false hc10, decide_eq_false hc11, decide_eq_false hc12, decide_eq_false hc13, decide_eq_false hc14, decide_eq_false hc15, decide_eq_false hc16, decide_eq_false hc17, decide_eq_false hc18, decide_eq_true hc19, cond_true, cond_false] at h
    refine s_fitsWithType (by decide) hp _ _ _ _ _ ?_
    refine And.intro (bI01 _) ?_
    exact h
  refine And.intro (fun hc20 => ?_) (fun hc20 => ?_)
  · simp only [decide_eq_false hc0, decide_eq_false hc1, decide_eq_false hc2, decide_eq_false hc3, decide_eq_false hc4, decide_eq_false hc5, decide_eq_false hc6, decide_eq_false hc7, decide_eq_false hc8, decide_eq_false hc9, decide_eq_false hc10, decide_eq_false hc11, decide_eq_false hc12, decide_eq_false hc13, decide_eq_false hc14, decide_eq_false hc15, decide_eq_false hc16, decide_eq_false hc17, decide_eq_false hc18, decide_eq_false hc19, decide_eq_true hc20, cond_true, cond_false] at h
    refine s_isNode (by decide) a ?_
    refine And.intro (fun g0 => ?_) (fun g0 => ?_)
    · rw [bI_eq0] at g0
      simp only [g0, Bool.false_and] at h
      refine And.intro (Or.inl rfl) ?_
      exact h
    · rw [bI_ne0] at g0
      simp only [g0, Bool.true_and] at h
      refine s_isNode (by decide) b ?_
      refine And.intro (fun g1 => ?_) (fun g1 => ?_)
      · rw [bI_eq0] at g1
        rw [g1] at h
        refine And.intro (Or.inl rfl) ?_
        exact h
      · rw [bI_ne0] at g1
        rw [g1] at h
        refine And.intro (Or.inr rfl) ?_
        exact h
  refine And.intro (fun hc21 => ?_) (fun hc21 => ?_)
  · simp only [decide_eq_false hc0, decide_eq_false hc1, decide_eq_false hc2, decide_eq_false hc3, decide_eq_false hc4, decide_eq_false hc5, decide_eq_false hc6, decide_eq_false hc7, decide_eq_false hc8, decide_eq_false hc9, decide_eq_false hc10, decide_eq_false hc11, decide_eq_false hc12, decide_eq_false hc13, decide_eq_false hc14, decide_eq_false hc15, decide_eq_false hc16, decide_eq_false hc17, decide_eq_false hc18, decide_eq_false hc19, decide_eq_false hc20, decide_eq_true hc21, cond_true, cond_false] at h
    refine s_isNode (by decide) a ?_
    refine And.intro (fun g0 => ?_) (fun g0 => ?_)
    · rw [bI_eq0] at g0
      simp only [g0, Bool.false_and] at h
      refine And.intro (Or.inl rfl) ?_
      exact h
    · rw [bI_ne0] at g0
      simp only [g0, Bool.true_and] at h
      refine s_isVariable (by decide) b ?_
      refine And.intro (fun g1 => ?_) (fun g1 => ?_)
      · rw [bI_eq0] at g1
        simp only [g1, Bool.false_and] at h
        refine And.intro (Or.inl rfl) ?_
        exact h
      · rw [bI_ne0] at g1
        simp only [g1, Bool.true_and] at h
        refine s_isNode (by decide) c ?_
        refine And.intro (fun g2 => ?_) (fun g2 => ?_)
        · rw [bI_eq0] at g2
          rw [g2] at h
          refine And.intro (Or.inl rfl) ?_
          exact h
        · rw [bI_ne0] at g2
          rw [g2] at h
          refine And.intro (Or.inr rfl) ?_
          exact h
  refine And.intro (fun hc22 => ?_) (fun hc22 => ?_)
  · simp only [decide_eq_false hc0, decide_eq_false hc1, decide_eq_false hc2, decide_eq_false hc3, decide_eq_false hc4, decide_eq_false hc5, decide_eq_false hc6, decide_eq_false hc7, decide_eq_false hc8, decide_eq_false hc9, decide_eq_false hc10, decide_eq_false hc11, decide_eq_false hc12, decide_eq_false hc13, decide_eq_false hc14, decide_eq_false hc15, decide_eq_false hc16, decide_eq_false hc17, decide_eq_false hc18, decide_eq_false hc19, decide_eq_false hc20, decide_eq_false hc21, decide_eq_true hc22, cond_true, cond_false] at h
    refine s_fitsWithType (by decide) hp _ _ _ _ _ ?_
    refine And.intro (bI01 _) ?_
    exact h
  refine And.intro (fun hc23 => ?_) (fun hc23 => ?_)
  · simp only [decide_eq_false hc0, decide_eq_false hc1, decide_eq_false hc2, decide_eq_false hc3, decide_eq_false hc4, decide_eq_false hc5, decide_eq_false hc6, decide_eq_false hc7, decide_eq_false hc8, decide_eq_false hc9, decide_eq_false hc10, decide_eq_false hc11, decide_eq_false hc12, decide_eq_false hc13, decide_eq_false hc14, decide_eq_false hc15, decide_eq_false hc16, decide_eq_false hc17, decide_eq_false hc18, decide_eq_false hc19, decide_eq_false hc20, decide_eq_false hc21, decide_eq_false hc22, decide_eq_true hc23, cond_true, cond_false] at h
    refine s_isNode (by decide) a ?_
    refine And.intro (fun g0 => ?_) (fun g0 => ?_)
    · rw [bI_eq0] at g0
      simp only [g0, Bool.false_and] at h
      refine And.intro (Or.inl rfl) ?_
      exact h
    · rw [bI_ne0] at g0
      simp only [g0, Bool.true_and] at h
      refine s_isNode (by decide) b ?_
      refine And.intro (fun g1 => ?_) (fun g1 => ?_)
      · rw [bI_eq0] at g1
        rw [g1] at h
        refine And.intro (Or.inl rfl) ?_
        exact h
      · rw [bI_ne0] at g1
        rw [g1] at h
        refine And.intro (Or.inr rfl) ?_
        exact h
  refine And.intro (fun hc24 => ?_) (fun hc24 => ?_)
  · simp only [decide_eq_false hc0, decide_eq_false hc1, decide_eq_false hc2, decide_eq_false hc3, decide_eq_false hc4, decide_eq_false hc5, decide_eq_false hc6, decide_eq_false hc7, decide_eq_false hc8, decide_eq_false hc9, decide_eq_false hc10, decide_eq_false hc11, decide_eq_false hc12, decide_eq_false hc13, decide_eq_false hc14, decide_eq_false hc15, decide_eq_false hc16, decide_eq_false hc17, decide_eq_false hc18, decide_eq_false hc19, decide_eq_false hc20, decide_eq_false hc21, decide_eq_false hc22, decide_eq_false hc23, decide_eq_true hc24, cond_true, cond_false] at h
    refine s_areNodes (by decide) _ _ _ ?_
    refine And.intro (bI01 _) ?_
    exact h
  refine And.intro (fun hc25 => ?_) (fun hc25 => ?_)
  · simp only [decide_eq_false hc0, decide_eq_false hc1, decide_eq_false hc2, decide_eq_false hc3, decide_eq_false hc4, decide_eq_false hc5, decide_eq_false hc6, decide_eq_false hc7, decide_eq_false hc8, decide_eq_false hc9, decide_eq_false hc10, decide_eq_false hc11, decide_eq_false hc12, decide_eq_false hc13, decide_eq_false hc14, decide_eq_false hc15, decide_eq_false hc16, decide_eq_false hc17, decide_eq_false hc18, decide_eq_false hc19, decide_eq_false hc20, decide_eq_false hc21, decide_eq_false hc22, decide_eq_false hc23, decide_eq_false hc24, decide_eq_true hc25, cond_true, cond_false] at h
    refine s_isNode (by decide) a ?_
    refine And.intro (fun g0 => ?_) (fun g0 => ?_)
    · rw [bI_eq0] at g0
      simp only [g0, Bool.false_and] at h
      refine And.intro (Or.inl rfl) ?_
      exact h
    · rw [bI_ne0] at g0
      simp only [g0, Bool.true_and] at h
      refine s_isNode (by decide) b ?_
      refine And.intro (fun g1 => ?_) (fun g1 => ?_)
      · rw [bI_eq0] at g1
        simp only [g1, Bool.false_and] at h
        refine And.intro (Or.inl rfl) ?_
        exact h
      · rw [bI_ne0] at g1
        simp only [g1, Bool.true_and] at h
        refine s_isVariable (by decide) c ?_
        refine And.intro (fun g2 => ?_) (fun g2 => ?_)
        · rw [bI_eq0] at g2
          rw [g2] at h
          refine And.intro (Or.inl rfl) ?_
          exact h
        · rw [bI_ne0] at g2
          rw [g2] at h
          refine And.intro (Or.inr rfl) ?_
          exact h
  refine And.intro (fun hc26 => ?_) (fun hc26 => ?_)
  · simp only [decide_eq_false hc0, decide_eq_false hc1, decide_eq_false hc2, decide_eq_false hc3, decide_eq_false hc4, decide_eq_false hc5, decide_eq_false hc6, decide_eq_false hc7, decide_eq_false hc8, decide_eq_false hc9, decide_eq_false hc10, decide_eq_false hc11, decide_eq_false hc12, decide_eq_false hc13, decide_eq_false hc14, decide_eq_false hc15, decide_eq_false hc16, decide_eq_false hc17, decide_eq_false hc18, decide_eq_false hc19, decide_eq_false hc20, decide_eq_false hc21, decide_eq_false hc22, decide_eq_false hc23, decide_eq_false hc24, decide_eq_false hc25, decide_eq_true hc26, cond_true, cond_false] at h
    refine s_areNodes (by decide) _ _ _ ?_
    refine And.intro (fun g0 => ?_) (fun g0 => ?_)
    · rw [bI_eq0] at g0
      rw [g0, Bool.false_and] at h
      refine And.intro (Or.inl rfl) ?_
      exact h
    · rw [bI_ne0] at g0
      rw [g0, Bool.true_and] at h
      refine s_lengthOfList (by decide) hp d ?_
      refine And.intro (fun g1 => ?_) (fun g1 => ?_)
      · rw [decide_eq_false g1] at h
        refine And.intro (Or.inl rfl) ?_
        exact h
      · rw [decide_eq_true g1] at h
        refine And.intro (Or.inr rfl) ?_
        exact h
  simp only [decide_eq_false hc0, decide_eq_false hc1, decide_eq_false hc2, decide_eq_false hc3, decide_eq_false hc4, decide_eq_false hc5, decide_eq_false hc6, decide_eq_false hc7, decide_eq_false hc8, decide_eq_false hc9, decide_eq_false hc10, decide_eq_false hc11, decide_eq_false hc12, decide_eq_false hc13, decide_eq_false hc14, decide_eq_false hc15, decide_eq_false hc16, decide_eq_false hc17, decide_eq_false hc18, decide_eq_false hc19, decide_eq_false hc20, decide_eq_false hc21, decide_eq_false hc22, decide_eq_false hc23, decide_eq_false hc24, decide_eq_false hc25, decide_eq_false hc26, cond_true, cond_false] at h
  refine s_fitsWithType (by decide) hp _ _ _ _ _ ?_
  refine And.intro (bI01 _) ?_
  exact h
def pTold (P : SP) (code a b c d : Int32) : SP := (pN P + 1, x_up (pC P) (ix (pN P)) code, x_up (pa P) (ix (pN P)) a, x_up (pb P) (ix (pN P)) b, x_up (pc' P) (ix (pN P)) c, x_up (pd P) (ix (pN P)) d, x_up (pL P) (ix (pN P)) (bif decide (code = 10) then 1 + pLen (pN P, x_up (pC P) (ix (pN P)) code, x_up (pa P) (ix (pN P)) a, x_up (pb P) (ix (pN P)) b, x_up (pc' P) (ix (pN P)) c, x_up (pd P) (ix (pN P)) d, pL P) a else 0))
def pTell (P : SP) (code a b c d : Int32) : Int32 × SP := bif !pFits P code a b c d then (-2, P) else bif !decide (pN P < 80) then (-3, P) else (pN P, pTold P code a b c d)
set_option maxRecDepth 100000 in
set_option maxHeartbeats 1000000 in
theorem s_tell {D : Nat} (hD : 6 ≤ D) {P : SP} {S : SS} {Q : xQ} (hp : pOK P) (code a b c d : Int32) (h : Q (some (.int (pTell P code a b c d).1)) (wC (pTell P code a b c d).2 S)) : Cd D 30 [.ref 1, .int code, .int a, .int b, .int c, .int d] (wC P S) Q := by
  refine Cd.up hD ?_
  refine Cd.mk cdX4_tell 6 1 5 [(0, .ref 1), (1, .int code), (2, .int a), (3, .int b), (4, .int c), (5, .int d)] rfl rfl rfl rfl 1000 ?_
  unfold pTell at h
  refine s_fits (by decide) hp _ _ _ _ _ ?_
  refine And.intro (fun h1 => ?_) (fun h1 => ?_)
  · rw [bI_ne0] at h1
    simp only [h1, Bool.not_true, cond_false] at h
    refine And.intro (fun h2 => ?_) (fun h2 => ?_)
    · simp only [decide_eq_true h2, Bool.not_true, cond_false] at h
      have hi : vp_in (pN P) 80 := vp_in_iff.mpr ⟨hp.1, by have := i_lt h2; have h3 : (80 : Int32).toInt = 80 := rfl; omega⟩
      refine And.intro hi ?_
      refine And.intro hi ?_
      refine And.intro hi ?_
      refine And.intro hi ?_
      refine And.intro hi ?_
      unfold pTold at h
      refine And.intro (fun h3 => ?_) (fun h3 => ?_)
      · simp only [decide_eq_false h3, cond_false] at h
        refine And.intro hi ?_
        show Q _ _
        rw [i_add1sub]
        exact h
      · simp only [decide_eq_true h3, cond_true] at h
        refine s_lengthOfList (P := (pN P, x_up (pC P) (ix (pN P)) code, x_up (pa P) (ix (pN P)) a, x_up (pb P) (ix (pN P)) b, x_up (pc' P) (ix (pN P)) c, x_up (pd P) (ix (pN P)) d, pL P)) (S := S) (by decide) (by exact hp) a ?_
        refine And.intro hi ?_
        show Q _ _
        rw [i_add1sub]
        exact h
    · simp only [decide_eq_false h2, Bool.not_false, cond_true] at h
      exact h
  · rw [bI_eq0] at h1
    simp only [h1, Bool.not_false, cond_true] at h
    exact h
def pForget (P : SP) : SP := (0, pC P, pa P, pb P, pc' P, pd P, pL P)
set_option maxRecDepth 100000 in
set_option maxHeartbeats 1000000 in
theorem s_forget {D : Nat} (hD : 1 ≤ D) {P : SP} {S : SS} {Q : xQ} (h : Q (some (.int (pN P))) (wC (pForget P) S)) : Cd D 31 [.ref 1] (wC P S) Q := by
  refine Cd.up hD ?_
  refine Cd.mk cdX4_forget 2 1 0 [(0, .ref 1)] rfl rfl rfl rfl 1000 ?_
  exact h
