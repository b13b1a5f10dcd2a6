/-! Types -/
def tIsType (t : Int32) : Bool := !decide (t < 0) && (!decide (64 ≤ t) && !decide (11 < t - t / 16 * 16))
set_option maxRecDepth 100000 in
set_option maxHeartbeats 1000000 in
theorem s_isType {D : Nat} (hD : 1 ≤ D) {w : xW} {Q : xQ} (t : Int32) (h : Q (some (.int (bI (tIsType t)))) w) : Cd D 41 [.int t] w Q := by
  refine Cd.up hD ?_
  refine Cd.mk cdX5_isType 1 99 1 [(0, .int t)] rfl rfl rfl rfl 1000 ?_
  unfold tIsType at h
  refine And.intro (fun h1 => ?_) (fun h1 => ?_)
  · refine And.intro (Or.inl rfl) ?_
    simpa [bI, h1] using h
  · refine And.intro (fun h2 => ?_) (fun h2 => ?_)
    · refine And.intro (Or.inl rfl) ?_
      simpa [bI, h1, h2] using h
    · refine And.intro (by decide) ?_
      refine And.intro (fun h3 => ?_) (fun h3 => ?_)
      · refine And.intro (Or.inl rfl) ?_
        simpa [bI, h1, h2, h3] using h
      · refine And.intro (Or.inr rfl) ?_
        simpa [bI, h1, h2, h3] using h
def tIsArr (t : Int32) : Bool := tIsType t && !decide (t < 16)
set_option maxRecDepth 100000 in
set_option maxHeartbeats 1000000 in
theorem s_isOfArrays {D : Nat} (hD : 2 ≤ D) {w : xW} {Q : xQ} (t : Int32) (h : Q (some (.int (bI (tIsArr t)))) w) : Cd D 42 [.int t] w Q := by
  refine Cd.up hD ?_
  refine Cd.mk cdX5_isOfArrays 1 99 1 [(0, .int t)] rfl rfl rfl rfl 1000 ?_
  unfold tIsArr at h
  refine s_isType (by decide) t ?_
  refine And.intro (fun h1 => ?_) (fun h1 => ?_)
  · refine And.intro (Or.inl rfl) ?_
    rw [bI_eq0] at h1
    simpa [bI, h1] using h
  · rw [bI_ne0] at h1
    refine And.intro (fun h2 => ?_) (fun h2 => ?_)
    · refine And.intro (Or.inl rfl) ?_
      simpa [bI, h1, h2] using h
    · refine And.intro (Or.inr rfl) ?_
      simpa [bI, h1, h2] using h
def tIsNum (t : Int32) : Bool := !decide (t < 0) && !decide (7 < t)
set_option maxRecDepth 100000 in
set_option maxHeartbeats 1000000 in
theorem s_isOfNumbers {D : Nat} (hD : 1 ≤ D) {w : xW} {Q : xQ} (t : Int32) (h : Q (some (.int (bI (tIsNum t)))) w) : Cd D 43 [.int t] w Q := by
  refine Cd.up hD ?_
  refine Cd.mk cdX5_isOfNumbers 1 99 1 [(0, .int t)] rfl rfl rfl rfl 1000 ?_
  unfold tIsNum at h
  refine And.intro (fun h1 => ?_) (fun h1 => ?_)
  · refine And.intro (Or.inl rfl) ?_
    simpa [bI, h1] using h
  · refine And.intro (fun h2 => ?_) (fun h2 => ?_)
    · refine And.intro (Or.inl rfl) ?_
      simpa [bI, h1, h2] using h
    · refine And.intro (Or.inr rfl) ?_
      simpa [bI, h1, h2] using h
def tIsInst (t : Int32) : Bool := decide (t = 8) || (decide (t = 10) || decide (t = 11))
set_option maxRecDepth 100000 in
set_option maxHeartbeats 1000000 in
theorem s_isOfInstances {D : Nat} (hD : 1 ≤ D) {w : xW} {Q : xQ} (t : Int32) (h : Q (some (.int (bI (tIsInst t)))) w) : Cd D 44 [.int t] w Q := by
  refine Cd.up hD ?_
  refine Cd.mk cdX5_isOfInstances 1 99 1 [(0, .int t)] rfl rfl rfl rfl 1000 ?_
  unfold tIsInst at h
  refine And.intro (fun h1 => ?_) (fun h1 => ?_)
  · refine And.intro (Or.inr rfl) ?_
    simpa [bI, h1] using h
  · refine And.intro (fun h2 => ?_) (fun h2 => ?_)
    · refine And.intro (Or.inr rfl) ?_
      simpa [bI, h1, h2] using h
    · refine And.intro (fun h3 => ?_) (fun h3 => ?_)
      · refine And.intro (Or.inl rfl) ?_
        simpa [bI, h1, h2, h3] using h
      · refine And.intro (Or.inr rfl) ?_
        simpa [bI, h1, h2, h3] using h
/-- what is left once dims are taken off both -/
def tCut : Nat → Int32 → Int32 → Int32 × Int32
  | 0, s, t => (s, t)
  | n + 1, s, t => bif (decide (s < 16) || decide (t < 16)) then (s, t) else tCut n (s + -16) (t + -16)
def tSub1 (s t : Int32) : Bool := bif decide (t = 8) then !decide (s < 8) else bif decide (t = 9) then (!decide (s < 9) && !decide (11 < s)) else bif decide (t = 10) then (decide (s = 10) || decide (s = 11)) else decide (s = t)
def tSub (s t : Int32) : Bool := tSub1 (tCut 3 s t).1 (tCut 3 s t).2
set_option maxRecDepth 100000 in
set_option maxHeartbeats 1000000 in
theorem s_isSub_end {d : Nat} {w : xW} {Q : xQ} (a b s t i : Int32) (h : Q (some (.int (bI (tSub1 s t)))) w) : Ev (Cd d) cdX5_isSub Q 37 [(0, .int a), (1, .int b), (2, .int s), (3, .int t), (4, .int i)] [] w := by
  refine xN.ev (Cd.mono d) 1000 ?_
  unfold tSub1 at h
  refine And.intro (fun h1 => ?_) (fun h1 => ?_)
  · refine And.intro (fun h2 => ?_) (fun h2 => ?_)
    · refine And.intro (Or.inl rfl) ?_
      simpa [bI, h1, h2] using h
    · refine And.intro (Or.inr rfl) ?_
      simpa [bI, h1, h2] using h
  · refine And.intro (fun h2 => ?_) (fun h2 => ?_)
    · refine And.intro (fun h3 => ?_) (fun h3 => ?_)
      · refine And.intro (Or.inl rfl) ?_
        simpa [bI, h1, h2, h3] using h
      · refine And.intro (fun h4 => ?_) (fun h4 => ?_)
        · refine And.intro (Or.inl rfl) ?_
          simpa [bI, h1, h2, h3, h4] using h
        · refine And.intro (Or.inr rfl) ?_
          simpa [bI, h1, h2, h3, h4] using h
    · refine And.intro (fun h3 => ?_) (fun h3 => ?_)
      · refine And.intro (fun h4 => ?_) (fun h4 => ?_)
        · refine And.intro (Or.inr rfl) ?_
          simpa [bI, h1, h2, h3, h4] using h
        · refine And.intro (fun h5 => ?_) (fun h5 => ?_)
          · refine And.intro (Or.inl rfl) ?_
            simpa [bI, h1, h2, h3, h4, h5] using h
          · refine And.intro (Or.inr rfl) ?_
            simpa [bI, h1, h2, h3, h4, h5] using h
      · refine And.intro (fun h4 => ?_) (fun h4 => ?_)
        · refine And.intro (Or.inl rfl) ?_
          simpa [bI, h1, h2, h3, h4] using h
        · refine And.intro (Or.inr rfl) ?_
          simpa [bI, h1, h2, h3, h4] using h
set_option maxRecDepth 100000 in
set_option maxHeartbeats 1000000 in
theorem s_isSub_loop {d : Nat} {w : xW} {Q : xQ} (a b : Int32) : ∀ (n : Nat) (s t : Int32), n ≤ 3 → Q (some (.int (bI (tSub1 (tCut n s t).1 (tCut n s t).2)))) w → Ev (Cd d) cdX5_isSub Q 7 [(0, .int a), (1, .int b), (2, .int s), (3, .int t), (4, .int (nI (3 - n)))] [] w
  | 0, s, t, _, h => by
    refine xN.ev (Cd.mono d) 3 ?_
    refine And.intro (fun h1 => ?_) (fun h1 => absurd (show (3 : Int32) ≤ nI (3 - 0) by decide) h1)
    exact s_isSub_end a b s t _ h
  | n + 1, s, t, hn, h => by
    refine xN.ev (Cd.mono d) 13 ?_
    have hi : ¬ (3 : Int32) ≤ nI (3 - (n + 1)) := by
      rcases (by omega : n = 0 ∨ n = 1 ∨ n = 2) with z | z | z <;> subst z <;> decide
    refine And.intro (fun h1 => absurd h1 hi) (fun _ => ?_)
    unfold tCut at h
    refine And.intro (fun h1 => ?_) (fun h1 => ?_)
    · refine xN.of (Cd.mono d) _ ?_
      exact s_isSub_end a b s t _ (by simpa [h1] using h)
    · refine And.intro (fun h2 => ?_) (fun h2 => ?_)
      · refine xN.of (Cd.mono d) _ ?_
        exact s_isSub_end a b s t _ (by simpa [h1, h2] using h)
      · have h3 : nI (3 - (n + 1)) + 1 = nI (3 - n) := by rw [nI_1, show 3 - (n + 1) + 1 = 3 - n by omega]
        have := s_isSub_loop (d := d) (w := w) (Q := Q) a b n (s + -16) (t + -16) (by omega) (by simpa [h1, h2] using h)
        rw [← h3] at this
        exact this
set_option maxRecDepth 100000 in
set_option maxHeartbeats 1000000 in
theorem s_isSub {D : Nat} (hD : 1 ≤ D) {w : xW} {Q : xQ} (s t : Int32) (h : Q (some (.int (bI (tSub s t)))) w) : Cd D 45 [.int s, .int t] w Q := by
  refine Cd.up hD ?_
  refine Cd.mk cdX5_isSub 5 99 2 [(0, .int s), (1, .int t)] rfl rfl rfl rfl 6 ?_
  exact s_isSub_loop s t 3 s t (Nat.le_refl 3) h
/-! Numbers: cut -/
def nCut (b : Int32) (v : Int64) : Int64 :=
  bif decide (b = 0) then (bif decide (v = 0) then 0 else 1)
  else bif decide (b = 1) then v.toInt32.toInt8.toInt32.toInt64
  else bif decide (b = 2) then (v.toInt32.toUInt32 % 65536).toInt32.toInt64
  else bif decide (b = 3) then v.toInt32.toInt16.toInt32.toInt64
  else bif decide (b = 4) then v.toInt32.toInt64
  else bif decide (b = 6) then FP.f2l (FP.l2f v)
  else bif decide (b = 7) then FP.d2l (FP.l2d v)
  else v
set_option maxRecDepth 100000 in
set_option maxHeartbeats 1000000 in
theorem s_cut {D : Nat} (hD : 1 ≤ D) {w : xW} {Q : xQ} (b : Int32) (v : Int64) (h : Q (some (.long (nCut b v))) w) : Cd D 26 [.int b, .long v] w Q := by
  refine Cd.up hD ?_
  refine Cd.mk cdX3_cut 3 99 2 [(0, .int b), (1, .long v)] rfl rfl rfl rfl 1000 ?_
  unfold nCut at h
  refine And.intro (fun h0 => ?_) (fun h0 => ?_)
  · refine And.intro (fun h1 => ?_) (fun h1 => ?_)
    · rw [lc_0] at h1
      show Q _ _
      simpa [h0, h1] using h
    · rw [lc_0] at h1
      show Q _ _
      simpa [h0, h1] using h
  · refine And.intro (fun h1 => ?_) (fun h1 => ?_)
    · show Q _ _
      simpa [h0, h1] using h
    · refine And.intro (fun h2 => ?_) (fun h2 => ?_)
      · show Q _ _
        simpa [h0, h1, h2] using h
      · refine And.intro (fun h3 => ?_) (fun h3 => ?_)
        · show Q _ _
          simpa [h0, h1, h2, h3] using h
        · refine And.intro (fun h4 => ?_) (fun h4 => ?_)
          · show Q _ _
            simpa [h0, h1, h2, h3, h4] using h
          · refine And.intro (fun h5 => ?_) (fun h5 => ?_)
            · show Q _ _
              simpa [h0, h1, h2, h3, h4, h5] using h
            · refine And.intro (fun h6 => ?_) (fun h6 => ?_)
              · show Q _ _
                simpa [h0, h1, h2, h3, h4, h5, h6] using h
              · refine And.intro (fun h7 => ?_) (fun h7 => ?_)
                · show Q _ _
                  simpa [h0, h1, h2, h3, h4, h5, h6, h7] using h
                · show Q _ _
                  simpa [h0, h1, h2, h3, h4, h5, h6, h7] using h
