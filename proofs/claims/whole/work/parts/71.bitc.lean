/-! bits(), of both -/
def bitsQ (h : SH) (t i : Int32) : Int64 := bif decide (hTyEl h t = 6) then bAns true (hReAt h t i) else bif decide (hTyEl h t = 7) then bAns false (hReAt h t i) else hAmAt h t i
/-- a whole number that is not too large -/
def rOK (r : UInt64) : Prop := ∃ i : Int, FP.Core.DInt i r ∧ i.natAbs < 2 ^ 85
set_option maxRecDepth 100000 in
set_option maxHeartbeats 1000000 in
theorem s_floatBits {D : Nat} (hD : 2 ≤ D) {w : xW} {Q : xQ} {r : UInt64} (hr : rOK r) (h : Q (some (.long (bAns true r))) w) : Cd D 27 [.double r] w Q := by
  obtain ⟨i, h1, h2⟩ := hr
  refine Cd.up hD ?_
  refine Cd.mk cdX3_floatBits 2 99 1 [(0, .double r)] rfl rfl rfl rfl 100 ?_
  exact s_bitsOf (six := true) (by decide) h1 h2 h
set_option maxRecDepth 100000 in
set_option maxHeartbeats 1000000 in
theorem s_doubleBits {D : Nat} (hD : 2 ≤ D) {w : xW} {Q : xQ} {r : UInt64} (hr : rOK r) (h : Q (some (.long (bAns false r))) w) : Cd D 28 [.double r] w Q := by
  obtain ⟨i, h1, h2⟩ := hr
  refine Cd.up hD ?_
  refine Cd.mk cdX3_doubleBits 2 99 1 [(0, .double r)] rfl rfl rfl rfl 100 ?_
  exact s_bitsOf (six := false) (by decide) h1 h2 h
set_option maxRecDepth 100000 in
set_option maxHeartbeats 1000000 in
theorem s_bitsAt {D : Nat} (hD : 5 ≤ D) {P : SP} {S : SS} {Q : xQ} (hh : hOK S.1) (hr : ∀ t i, rOK (hReAt S.1 t i)) (t i : Int32) (h : Q (some (.long (bitsQ S.1 t i))) (wC P S)) : Cd D 10 [.ref 2, .int t, .int i] (wC P S) Q := by
  refine Cd.up hD ?_
  refine Cd.mk cdX2_bitsAt 3 0 2 [(0, .ref 2), (1, .int t), (2, .int i)] rfl rfl rfl rfl 100 ?_
  unfold bitsQ at h
  refine s_typeOfElements (by decide) hh t ?_
  refine And.intro (fun h6 => ?_) (fun h6 => ?_)
  · rw [decide_eq_true (show hTyEl S.1 t = 6 from h6), cond_true] at h
    refine s_realAt (by decide) hh t i ?_
    refine s_floatBits (by decide) (hr t i) ?_
    exact h
  · rw [decide_eq_false (show ¬ hTyEl S.1 t = 6 from h6), cond_false] at h
    refine And.intro (fun h7 => ?_) (fun h7 => ?_)
    · rw [decide_eq_true (show hTyEl S.1 t = 7 from h7), cond_true] at h
      refine s_realAt (by decide) hh t i ?_
      refine s_doubleBits (by decide) (hr t i) ?_
      exact h
    · rw [decide_eq_false (show ¬ hTyEl S.1 t = 7 from h7), cond_false] at h
      refine s_amountAt (by decide) hh t i ?_
      exact h
set_option maxRecDepth 100000 in
set_option maxHeartbeats 1000000 in
theorem k_bits {D : Nat} (hD : 6 ≤ D) {P : SP} {S : SS} {Q : xQ} (hh : hOK S.1) (hr : ∀ t i, rOK (hReAt S.1 t i)) (t i : Int32) (h : Q (some (.long (bitsQ S.1 t i))) (wC P S)) : Cd D 92 [.ref 0, .int t, .int i] (wC P S) Q := by
  refine Cd.up hD ?_
  refine Cd.mk cdX7_bits 3 3 2 [(0, .ref 0), (1, .int t), (2, .int i)] rfl rfl rfl rfl 100 ?_
  refine s_bitsAt (by decide) hh hr t i ?_
  exact h
theorem add16 {a : Int32} {k : Int32} (h : a = k) : a - 16 = k - 16 := by rw [h]
set_option maxRecDepth 100000 in
set_option maxHeartbeats 1000000 in
theorem m_bits_58 {d : Nat} (hd : 2 ≤ d) {P : SP} {S : SS} {m : MS} {Q : xQ} (hI : hInv S.1) (t i : Int32) (h : Q (some (.long (hAmAt S.1 t i))) (wM P S m)) : Ev (Cd d) cdX8_bits Q 58 [(0, .ref 0), (1, .int t), (2, .int i), (3, .int 0)] [] (wM P S m) := by
  refine Ev.go (Cd.mono d) [] 100 ?_
  refine And.intro (fun _ => ?_) (fun z => absurd rfl z)
  refine m_element hd hI t i ?_
  exact h
set_option maxRecDepth 100000 in
set_option maxHeartbeats 1000000 in
theorem m_bits {D : Nat} (hD : 3 ≤ D) {P : SP} {S : SS} {m : MS} {Q : xQ} (hI : hInv S.1) (hr : ∀ t i, rOK (hReAt S.1 t i)) (t i : Int32) (h : Q (some (.long (bitsQ S.1 t i))) (wM P S m)) : Cd D 158 [.ref 0, .int t, .int i] (wM P S m) Q := by
  refine Cd.up hD ?_
  refine Cd.mk cdX8_bits 4 4 2 [(0, .ref 0), (1, .int t), (2, .int i)] rfl rfl rfl rfl 0 ?_
  refine Ev.go (Cd.mono 2) [58] 100 ?_
  refine m_in (by decide) _ _ _ ?_
  rw [show lIn t.toInt64 0 (hTh S.1 - 1).toInt64 = hIsThing S.1 t from in_thing hI.1 t]
  unfold bitsQ at h
  have hz : hHasEl S.1 t i = false → Q (some (.long (hAmAt S.1 t i))) (wM P S m) := by
    intro he
    have e1 : hAmAt S.1 t i = 0 := by unfold hAmAt; rw [he]; rfl
    have e2 : hReAt S.1 t i = FP.dconst0 := by unfold hReAt; rw [he]; rfl
    have d0 : FP.Core.DInt 0 FP.dconst0 := by
      show FP.Core.Whole 0 (FP.Core.val64 FP.Core.dconst0)
      rw [FP.Core.val64_dconst0]
      exact fl_mk (N := 0) (s := false) (by simp)
    rw [e2, bAns_0 d0, bAns_0 d0, e1] at h
    rw [e1]
    have hb : ∀ a b : Bool, (bif a then (0 : Int64) else bif b then 0 else 0) = 0 := by
      intro a b
      cases a <;> cases b <;> rfl
    rw [hb] at h
    exact h
  cases ht : hIsThing S.1 t
  · refine And.intro (fun _ => ?_) (fun z => absurd rfl z)
    refine m_bits_58 (Nat.le_refl _) hI t i (hz ?_)
    unfold hHasEl hIsArray
    rw [ht]
    rfl
  · refine And.intro (fun z => absurd z (by decide)) (fun _ => ?_)
    have hin := hIsThing_in hI.1 ht
    refine And.intro (fun h1 => ?_) (fun h1 => ?_)
    · refine m_bits_58 (Nat.le_refl _) hI t i (hz ?_)
      unfold hHasEl
      rw [decide_eq_true (show i < 0 from h1)]
      simp
    · have h1 : ¬ i < 0 := h1
      refine And.intro hin ?_
      refine And.intro (fun h2 => ?_) (fun h2 => ?_)
      · refine m_bits_58 (Nat.le_refl _) hI t i (hz ?_)
        unfold hHasEl
        rw [decide_eq_true (show hLe S.1 (ix t) ≤ i from h2)]
        simp
      · have h2 : ¬ hLe S.1 (ix t) ≤ i := h2
        have hl : ¬ hLe S.1 (ix t) = -1 := fun y => by
          have a1 := i_not_lt h1
          have a2 := i_not_le h2
          rw [y] at a2
          have z : (0 : Int32).toInt = 0 := rfl
          have z2 : (-1 : Int32).toInt = -1 := rfl
          omega
        have ha : hIsArray S.1 t = true := by
          unfold hIsArray
          rw [ht, decide_eq_false hl]
          rfl
        have he : hHasEl S.1 t i = true := by
          unfold hHasEl
          rw [ha, decide_eq_false h1, decide_eq_false h2]
          rfl
        have eTy : hTyEl S.1 t = hTy S.1 (ix t) - 16 := by unfold hTyEl; rw [ha]; rfl
        have eRe : hReAt S.1 t i = hRe S.1 (ix (hSt S.1 (ix t) + i)) := by unfold hReAt; rw [he]; rfl
        have zt : t.toInt64.toInt32 = t := Int32.toInt32_toInt64 t
        have zi : i.toInt64.toInt32 = i := Int32.toInt32_toInt64 i
        have hcell := hCell_in hI.1 he
        have hgo : ∀ six : Bool, hTy S.1 (ix t) - 16 = bT six → Q (some (.long (bAns six (hRe S.1 (ix (hSt S.1 (ix t) + i)))))) (wM P S m) → Ev (Cd 2) cdX8_bits Q 58 [(0, .ref 0), (1, .int t), (2, .int i), (3, .int 1)] [] (wM P S m) := by
          intro six he6 hq
          obtain ⟨k, k1, k2⟩ := hr t i
          rw [eRe] at k1
          refine Ev.go (Cd.mono 2) [] 100 ?_
          refine And.intro (fun z => absurd z ne10) (fun _ => ?_)
          refine And.intro hin ?_
          refine m_placeOf (by decide) _ _ (by rw [zt]; exact hin) ?_
          rw [zt, zi]
          refine And.intro hcell ?_
          rw [show hTy S.1 t.toNatClampNeg - 16 = bT six from he6]
          refine m_bitsOf (by decide) k1 k2 ?_
          exact hq
        rw [eTy, eRe] at h
        refine And.intro hin ?_
        refine And.intro (fun h6 => ?_) (fun h6 => ?_)
        · have h6 : hTy S.1 (ix t) = 22 := h6
          have e6 : hTy S.1 (ix t) - 16 = 6 := add16 h6
          rw [decide_eq_true e6, cond_true] at h
          exact hgo true e6 h
        · have h6 : ¬ hTy S.1 (ix t) = 22 := h6
          have n6 : ¬ hTy S.1 (ix t) - 16 = 6 := fun y => h6 (sub16_inj.mp (y.trans (show (6 : Int32) = 22 - 16 by decide)))
          rw [decide_eq_false n6, cond_false] at h
          refine And.intro hin ?_
          refine And.intro (fun h7 => ?_) (fun h7 => ?_)
          · have h7 : ¬ hTy S.1 (ix t) = 23 := h7
            have n7 : ¬ hTy S.1 (ix t) - 16 = 7 := fun y => h7 (sub16_inj.mp (y.trans (show (7 : Int32) = 23 - 16 by decide)))
            rw [decide_eq_false n7, cond_false] at h
            exact m_bits_58 (Nat.le_refl _) hI t i h
          · have h7 : hTy S.1 (ix t) = 23 := h7
            have e7 : hTy S.1 (ix t) - 16 = 7 := add16 h7
            rw [decide_eq_true e7, cond_true] at h
            exact hgo false e7 h
theorem CI_rOK {κ : Int} {S : SS} (h : CI GG κ S) (hκ : κ ≤ gB + 3000) (t i : Int32) : rOK (hReAt S.1 t i) := by
  have hG : GG κ (hReAt S.1 t i) := by
    unfold hReAt
    cases hHasEl S.1 t i
    · exact go_ok.2.1 κ (by have := h.2.2.2.1; omega)
    · exact h.2.2.2.2.1 _
  obtain ⟨k, j, e, hk, h1, h2⟩ := GG_nat hG hκ
  refine ⟨j, h1, ?_⟩
  have : k * 2 ^ 63 ≤ 2 ^ 21 * 2 ^ 63 := Nat.mul_le_mul_right _ (by omega)
  omega
