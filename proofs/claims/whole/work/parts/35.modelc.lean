theorem l_char (v : Int64) : v &&& 65535 = (v.toInt32.toUInt32 % 65536).toInt32.toInt64 := by
  rw [pk_char]
  have hk : v.toInt32.toBitVec.toNat % 65536 < 65536 := Nat.mod_lt _ (by decide)
  rw [nI_l (by omega)]
  apply Int64.toBitVec_inj.mp
  apply BitVec.eq_of_toNat_eq
  have e1 : (lN (v.toInt32.toBitVec.toNat % 65536)).toBitVec.toNat = v.toInt32.toBitVec.toNat % 65536 := by
    unfold lN
    rw [Int64.toBitVec_ofNat', BitVec.toNat_ofNat]
    omega
  rw [e1]
  have e2 : v.toInt32.toBitVec.toNat = v.toBitVec.toNat % 2 ^ 32 := by
    rw [Int64.toBitVec_toInt32, BitVec.signExtend_eq_setWidth_of_le _ (by decide), BitVec.toNat_setWidth]
  rw [e2, Int64.toBitVec_and, BitVec.toNat_and]
  have e3 : (65535 : Int64).toBitVec.toNat = 2 ^ 16 - 1 := by decide
  rw [e3, Nat.and_two_pow_sub_one_eq_mod]
  omega
/-- a float's value cut off is the float's own -/
def fCut : Prop := ∀ v : Int64, FP.d2l (FP.f2d (FP.l2f v)) = FP.f2l (FP.l2f v)
def uReal (b : Int32) (v : Int64) : UInt64 := bif decide (b = 6) then FP.f2d (FP.l2f v) else FP.l2d v
set_option maxRecDepth 100000 in
set_option maxHeartbeats 1000000 in
theorem m_real {D : Nat} (hD : 1 ≤ D) (hf : fOK1) {w : xW} {Q : xQ} (b : Int32) (v : Int64) (h : Q (some (.double (uReal b v))) w) : Cd D 102 [.int b, .long v] w Q := by
  refine Cd.up hD ?_
  refine Cd.mk cdX8_real 3 99 2 [(0, .int b), (1, .long v)] rfl rfl rfl rfl 100 ?_
  unfold uReal at h
  refine And.intro (fun h1 => ?_) (fun h1 => ?_)
  · simp only [decide_eq_false h1, cond_false] at h
    exact h
  · simp only [decide_eq_true h1, cond_true] at h
    refine And.intro (hf v) ?_
    exact h
set_option maxRecDepth 100000 in
set_option maxHeartbeats 1000000 in
theorem m_cut {D : Nat} (hD : 2 ≤ D) (hf : fOK1) (hc : fCut) {w : xW} {Q : xQ} (b : Int32) (v : Int64) (hb : 0 ≤ b.toInt ∧ b.toInt ≤ 7) (h : Q (some (.long (nCut b v))) w) : Cd D 101 [.int b, .long v] w Q := by
  refine Cd.up hD ?_
  refine Cd.mk cdX8_cut 3 99 2 [(0, .int b), (1, .long v)] rfl rfl rfl rfl 100 ?_
  unfold nCut at h
  refine And.intro (fun h0 => ?_) (fun h0 => ?_)
  · simp only [decide_eq_true h0, cond_true] at h
    refine And.intro (fun h1 => ?_) (fun h1 => ?_)
    · rw [lc_0] at h1
      simp only [decide_eq_true h1, cond_true] at h
      exact h
    · rw [lc_0] at h1
      simp only [decide_eq_false h1, cond_false] at h
      exact h
  · simp only [decide_eq_false h0, cond_false] at h
    refine And.intro (fun h1 => ?_) (fun h1 => ?_)
    · simp only [decide_eq_true h1, cond_true] at h
      exact h
    · simp only [decide_eq_false h1, cond_false] at h
      refine And.intro (fun h2 => ?_) (fun h2 => ?_)
      · simp only [decide_eq_true h2, cond_true] at h
        rw [← l_char] at h
        exact h
      · simp only [decide_eq_false h2, cond_false] at h
        refine And.intro (fun h3 => ?_) (fun h3 => ?_)
        · simp only [decide_eq_true h3, cond_true] at h
          exact h
        · simp only [decide_eq_false h3, cond_false] at h
          refine And.intro (fun h4 => ?_) (fun h4 => ?_)
          · simp only [decide_eq_true h4, cond_true] at h
            exact h
          · simp only [decide_eq_false h4, cond_false] at h
            refine And.intro (fun h5 => ?_) (fun h5 => ?_)
            · simp only [dne h5 (show (5 : Int32) ≠ 6 by decide), dne h5 (show (5 : Int32) ≠ 7 by decide), cond_false] at h
              exact h
            · refine m_real (by decide) hf _ _ ?_
              unfold uReal
              by_cases h6 : b = 6
              · simp only [decide_eq_true h6, cond_true] at h ⊢
                rw [← hc] at h
                exact h
              · have h7 : b = 7 := by
                  have hz := nI_toI hb.1
                  have hq : b.toInt.toNat < 8 := by omega
                  generalize b.toInt.toNat = q at hz hq
                  rcases (by omega : q = 0 ∨ q = 1 ∨ q = 2 ∨ q = 3 ∨ q = 4 ∨ q = 5 ∨ q = 6 ∨ q = 7) with y | y | y | y | y | y | y | y <;> subst y
                  · exact absurd hz h0
                  · exact absurd hz h1
                  · exact absurd hz h2
                  · exact absurd hz h3
                  · exact absurd hz h4
                  · exact absurd hz h5
                  · exact absurd hz h6
                  · exact hz
                simp only [decide_eq_false h6, decide_eq_true h7, cond_true, cond_false] at h ⊢
                exact h
/-- what more() lays at a place -/
def uMore (h : SH) (c t : Int32) (r : UInt64) (v : Int64) : SH :=
  bif decide (t = 6) then hPutRe h c (FP.f2d (FP.fadd (FP.d2f r) (FP.l2f v)))
  else bif decide (t = 7) then hPutRe h c (FP.dadd r (FP.l2d v))
  else hSetAm h (x_up (hAm h) (ix c) (nCut t v))
set_option maxRecDepth 100000 in
set_option maxHeartbeats 1000000 in
theorem m_more {D : Nat} (hD : 3 ≤ D) (hf : fOK1) (hc : fCut) {P : SP} {S : SS} {m : MS} {Q : xQ} (c t : Int32) (r : UInt64) (v : Int64) (hc4 : vp_in c 4000) (ht : 0 ≤ t.toInt ∧ t.toInt ≤ 7) (h6 : t = 6 → fOK6 r v) (h7 : t = 7 → fOK7 r v) (h : Q none (wM P (uMore S.1 c t r v, S.2) m)) : Cd D 127 [.ref 0, .int c, .int t, .double r, .long v] (wM P S m) Q := by
  refine Cd.up hD ?_
  refine Cd.mk cdX8_more 7 4 4 [(0, .ref 0), (1, .int c), (2, .int t), (3, .double r), (5, .long v)] rfl rfl rfl rfl 100 ?_
  unfold uMore at h
  refine And.intro (fun g1 => ?_) (fun g1 => ?_)
  · simp only [decide_eq_false g1, cond_false] at h
    refine And.intro (fun g2 => ?_) (fun g2 => ?_)
    · simp only [decide_eq_false g2, cond_false] at h
      refine m_cut (by decide) hf hc _ _ ht ?_
      refine And.intro hc4 ?_
      exact h
    · simp only [decide_eq_true g2, cond_true] at h
      refine And.intro (h7 g2) ?_
      refine m_lay (by decide) _ _ hc4 ?_
      exact h
  · simp only [decide_eq_true g1, cond_true] at h
    refine And.intro (h6 g1).1 ?_
    refine And.intro (h6 g1).2.1 ?_
    refine And.intro (h6 g1).2.2 ?_
    refine m_lay (by decide) _ _ hc4 ?_
    exact h
/-! what the reference answers -/
set_option maxRecDepth 100000 in
set_option maxHeartbeats 1000000 in
theorem m_value {D : Nat} (hD : 1 ≤ D) {P : SP} {S : SS} {m : MS} {Q : xQ} (h : Q (some (.long (mCame m))) (wM P S m)) : Cd D 149 [.ref 0] (wM P S m) Q := by
  refine Cd.up hD ?_
  refine Cd.mk cdX8_value 1 4 0 [(0, .ref 0)] rfl rfl rfl rfl 100 ?_
  exact h
set_option maxRecDepth 100000 in
set_option maxHeartbeats 1000000 in
theorem m_where {D : Nat} (hD : 1 ≤ D) {P : SP} {S : SS} {m : MS} {Q : xQ} (h : Q (some (.int (rW S.2.2))) (wM P S m)) : Cd D 150 [.ref 0] (wM P S m) Q := by
  refine Cd.up hD ?_
  refine Cd.mk cdX8_where 1 4 0 [(0, .ref 0)] rfl rfl rfl rfl 100 ?_
  exact h
set_option maxRecDepth 100000 in
set_option maxHeartbeats 1000000 in
theorem m_worked {D : Nat} (hD : 1 ≤ D) {P : SP} {S : SS} {m : MS} {Q : xQ} (h : Q (some (.int (rN S.2.2))) (wM P S m)) : Cd D 151 [.ref 0] (wM P S m) Q := by
  refine Cd.up hD ?_
  refine Cd.mk cdX8_worked 1 4 0 [(0, .ref 0)] rfl rfl rfl rfl 100 ?_
  exact h
set_option maxRecDepth 100000 in
set_option maxHeartbeats 1000000 in
theorem m_notes {D : Nat} (hD : 1 ≤ D) {P : SP} {S : SS} {m : MS} {Q : xQ} (h : Q (some (.int (rT S.2.2))) (wM P S m)) : Cd D 152 [.ref 0] (wM P S m) Q := by
  refine Cd.up hD ?_
  refine Cd.mk cdX8_notes 1 4 0 [(0, .ref 0)] rfl rfl rfl rfl 100 ?_
  exact h
