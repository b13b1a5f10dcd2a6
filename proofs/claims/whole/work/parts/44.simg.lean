/-! the reference's put -/
theorem tSub_rng {t : Int32} (h : tIsType t = true) : 0 ≤ t.toInt ∧ t.toInt < 64 := tIsType_rng h
set_option maxRecDepth 100000 in
set_option maxHeartbeats 1000000 in
theorem m_put_63 {d : Nat} (hD : 3 ≤ d) {P : SP} {S : SS} {m : MS} {Q : xQ} (hf : fOK1) (fc : fCut) (hh : hInv S.1) (hR : RES S m) (t I : Int64) (hT : t.toInt32 = nI (ix t.toInt32)) (ht : ((ix t.toInt32 : Nat) : Int) < (hTh S.1).toInt) (hl : ¬ hLe S.1 (ix t.toInt32) = -1) (hi0 : 0 ≤ I.toInt32.toInt) (hi : I.toInt32.toInt < (hLe S.1 (ix t.toInt32)).toInt)
    (hk : tIsNum (hTy S.1 (ix t.toInt32) - 16) = decide (rK S.2.2 = 0))
    (h0 : Q (some (.int 0)) (wM P (hPut0 S.1 t.toInt32 I.toInt32 (rK S.2.2) (rA S.2.2), S.2) (mSetR m (mRef m) (hAm (hPut0 S.1 t.toInt32 I.toInt32 (rK S.2.2) (rA S.2.2)) (ix (hSt S.1 (ix t.toInt32) + I.toInt32)))))) : Ev (Cd d) cdX8_put Q 63 [(0, .ref 0), (1, .long t), (3, .long I), (5, .int (hTy S.1 (ix t.toInt32) - 16))] [] (wM P S m) := by
  obtain ⟨f1, f2, f3, f4, f5, f6, f7⟩ := arr_facts hh ht hl
  obtain ⟨g1, g2, g3, g4⟩ := el_facts hh ht hl hi0 hi
  rw [← hT] at f1 f2 g1
  have hin : vp_in t.toInt32 400 := by rw [hT]; exact (thing_facts hh ht).2.2.1
  have h58 : tIsNum (hTy S.1 (ix t.toInt32) - 16) = (!decide (8 ≤ hTy S.1 (ix t.toInt32) - 16)) := (tIsNum_8 f3).symm
  unfold hPut0 at h0
  rw [f2] at h0
  refine Ev.go (Cd.mono d) [] 100 ?_
  by_cases hz : rK S.2.2 = 0
  · have hr := hR.ref0 hz
    rw [decide_eq_true hz] at hk
    have hrng := tIsNum_rng hk
    refine And.intro (fun z => absurd hr z) (fun _ => ?_)
    rw [decide_eq_true hz, cond_true, ← hR.2] at h0
    refine And.intro (fun h5 => ?_) (fun h5 => ?_)
    · have h5' := i_le h5
      have e5 : (5 : Int32).toInt = 5 := rfl
      have n6 : ¬ hTy S.1 (ix t.toInt32) - 16 = 6 := fun y => by
        have h5' : (hTy S.1 (ix t.toInt32) - 16).toInt ≤ 5 := h5'
        rw [y] at h5'
        exact absurd h5' (by decide)
      have n7 : ¬ hTy S.1 (ix t.toInt32) - 16 = 7 := fun y => by
        have h5' : (hTy S.1 (ix t.toInt32) - 16).toInt ≤ 5 := h5'
        rw [y] at h5'
        exact absurd h5' (by decide)
      rw [decide_eq_false n6, decide_eq_false n7, cond_false, cond_false] at h0
      refine m_placeOf (by omega) _ _ hin ?_
      refine And.intro (fun _ => ?_) (fun z => absurd hr z)
      refine m_cut (by omega) hf fc _ _ hrng ?_
      refine And.intro g2 ?_
      refine m_placeOf (S := (hSetAm S.1 (x_up (hAm S.1) (ix (hSt S.1 (ix t.toInt32) + I.toInt32)) (nCut (hTy S.1 (ix t.toInt32) - 16) (mCame m))), S.2)) (m := m) (by omega) _ _ hin ?_
      refine And.intro g2 ?_
      exact h0
    · have h5' := i_not_le h5
      have e5 : (5 : Int32).toInt = 5 := rfl
      have h5' : 5 < (hTy S.1 (ix t.toInt32) - 16).toInt := h5'
      refine m_placeOf (by omega) _ _ hin ?_
      refine m_real (by omega) hf _ _ ?_
      refine m_lay (by omega) _ _ g2 ?_
      refine m_placeOf (S := (hPutRe S.1 (hSt S.1 (ix t.toInt32) + I.toInt32) (uReal (hTy S.1 (ix t.toInt32) - 16) (mCame m)), S.2)) (m := m) (by omega) _ _ hin ?_
      refine And.intro g2 ?_
      unfold uReal
      by_cases h6 : hTy S.1 (ix t.toInt32) - 16 = 6
      · rw [decide_eq_true h6, cond_true] at h0 ⊢
        exact h0
      · have h7 : hTy S.1 (ix t.toInt32) - 16 = 7 := by
          have n6 : (hTy S.1 (ix t.toInt32) - 16).toInt ≠ 6 := fun y => h6 (Int32.toInt_inj.mp y)
          exact Int32.toInt_inj.mp (show (hTy S.1 (ix t.toInt32) - 16).toInt = 7 by omega)
        rw [decide_eq_false h6, decide_eq_true h7, cond_true, cond_false] at h0
        rw [decide_eq_false h6, cond_false]
        exact h0
  · have hr := hR.ref1 hz
    rw [decide_eq_false hz] at hk
    have n6 : ¬ hTy S.1 (ix t.toInt32) - 16 = 6 := fun y => by rw [y] at hk; exact absurd hk (by decide)
    have n7 : ¬ hTy S.1 (ix t.toInt32) - 16 = 7 := fun y => by rw [y] at hk; exact absurd hk (by decide)
    rw [decide_eq_false n6, decide_eq_false n7, decide_eq_false hz, cond_false, cond_false, cond_false, ← hR.2] at h0
    refine And.intro (fun _ => ?_) (fun z => absurd (hr.symm.trans z) ne10)
    refine m_placeOf (by omega) _ _ hin ?_
    refine And.intro (fun z => absurd (hr.symm.trans z) ne10) (fun _ => ?_)
    refine And.intro g2 ?_
    refine m_placeOf (S := (hSetAm S.1 (x_up (hAm S.1) (ix (hSt S.1 (ix t.toInt32) + I.toInt32)) (mCame m)), S.2)) (m := m) (by omega) _ _ hin ?_
    refine And.intro g2 ?_
    exact h0
set_option maxRecDepth 100000 in
set_option maxHeartbeats 1000000 in
theorem m_put {D : Nat} (hD : 4 ≤ D) {P : SP} {S : SS} {m : MS} {Q : xQ} (hf : fOK1) (fc : fCut) (hh : hInv S.1) (hR : RES S m) (hV : vOK S.1 (rK S.2.2) (rA S.2.2)) (t I : Int64) (hT : t.toInt32 = nI (ix t.toInt32)) (ht : ((ix t.toInt32 : Nat) : Int) < (hTh S.1).toInt) (hl : ¬ hLe S.1 (ix t.toInt32) = -1) (hi0 : 0 ≤ I.toInt32.toInt) (hi : I.toInt32.toInt < (hLe S.1 (ix t.toInt32)).toInt)
    (h9 : ∀ c : Int32, 0 < c.toInt → hPut S.1 t.toInt32 I.toInt32 (rK S.2.2) (rA S.2.2) = (c, S.1) → Q (some (.int c)) (wM P S m))
    (h0 : tIsNum (hTy S.1 (ix t.toInt32) - 16) = decide (rK S.2.2 = 0) → hPut S.1 t.toInt32 I.toInt32 (rK S.2.2) (rA S.2.2) = (0, hPut0 S.1 t.toInt32 I.toInt32 (rK S.2.2) (rA S.2.2)) → Q (some (.int 0)) (wM P (hPut0 S.1 t.toInt32 I.toInt32 (rK S.2.2) (rA S.2.2), S.2) (mSetR m (mRef m) (hAm (hPut0 S.1 t.toInt32 I.toInt32 (rK S.2.2) (rA S.2.2)) (ix (hSt S.1 (ix t.toInt32) + I.toInt32)))))) : Cd D 125 [.ref 0, .long t, .long I] (wM P S m) Q := by
  obtain ⟨f1, f2, f3, f4, f5, f6, f7⟩ := arr_facts hh ht hl
  obtain ⟨g1, g2, g3, g4⟩ := el_facts hh ht hl hi0 hi
  rw [← hT] at f1 f2 g1
  have hin : vp_in t.toInt32 400 := by rw [hT]; exact (thing_facts hh ht).2.2.1
  unfold hPut at h9 h0
  rw [g1, f2] at h9 h0
  simp only [Bool.not_true, cond_false] at h9 h0
  refine Cd.up hD ?_
  refine Cd.mk cdX8_put 6 4 2 [(0, .ref 0), (1, .long t), (3, .long I)] rfl rfl rfl rfl 0 ?_
  refine Ev.go (Cd.mono 3) [63] 100 ?_
  refine And.intro hin ?_
  refine m_isNumbers (by decide) _ ?_
  rw [tIsNum_8 f3]
  refine And.intro (fun z => ?_) (fun z => ?_)
  · have z : ¬ mRef m = bI (tIsNum (hTy S.1 (ix t.toInt32) - 16)) := z
    rw [hR.1, bI_inj] at z
    have hkk : tIsNum (hTy S.1 (ix t.toInt32) - 16) = decide (rK S.2.2 = 0) := by
      cases ha : tIsNum (hTy S.1 (ix t.toInt32) - 16) <;> cases hb : decide (rK S.2.2 = 0) <;> rw [ha, hb] at z <;> first | rfl | exact absurd rfl z
    have hkk2 : (tIsNum (hTy S.1 (ix t.toInt32) - 16) != decide (rK S.2.2 = 0)) = false := by rw [hkk]; exact bne_self_eq_false _
    rw [hkk2, cond_false] at h9 h0
    have h0 := h0 hkk
    by_cases hz : rK S.2.2 = 0
    · have hr := hR.ref0 hz
      rw [dne hz (by decide), Bool.false_and, cond_false] at h0
      refine And.intro (fun _ => ?_) (fun z => absurd hr z)
      exact m_put_63 (by decide) hf fc hh hR t I hT ht hl hi0 hi hkk (h0 rfl)
    · have hr := hR.ref1 hz
      refine And.intro (fun z => absurd (hr.symm.trans z) ne10) (fun _ => ?_)
      rcases vOK_ref hV hz with x | x
      · have hneg : mCame m < 0 := by rw [hR.2]; exact x.2.2
        rw [dne x.1 (by decide), Bool.false_and, cond_false] at h0
        refine And.intro (fun _ => ?_) (fun z => absurd (by rw [lc_lt]; exact hneg) z)
        exact m_put_63 (by decide) hf fc hh hR t I hT ht hl hi0 hi hkk (h0 rfl)
      · have hneg : ¬ mCame m < 0 := by rw [hR.2]; exact x.2.1
        obtain ⟨tt, htt, ha⟩ := x.2.2
        obtain ⟨e1, e2, e3⟩ := vOK_two (ty := hTy S.1 (ix t.toInt32) - 16) hh htt x.1 ha
        have e4 : hTypeOf S.1 (rA S.2.2).toInt32 = hTy S.1 (ix (rA S.2.2).toInt32) := by
          unfold hTypeOf
          have := (thing_facts hh htt)
          rw [ha, this.1, this.2.2.2.1]
          rfl
        rw [decide_eq_true x.1, Bool.true_and, e4] at h9 h0
        rw [← hR.2] at e1 e2
        refine And.intro (fun z => absurd (by rw [lc_lt] at z; exact z) hneg) (fun _ => ?_)
        refine And.intro e1 ?_
        refine m_isSub (by decide) _ _ (tIsType_rng e2) (tIsType_rng f3) ?_
        rw [hR.2]
        refine And.intro (fun z => ?_) (fun z => ?_)
        · rw [bI_ne0] at z
          rw [z] at h0
          exact m_put_63 (by decide) hf fc hh hR t I hT ht hl hi0 hi hkk (h0 rfl)
        · rw [bI_eq0] at z
          rw [z] at h9
          exact h9 3 (by decide) rfl
  · have z : mRef m = bI (tIsNum (hTy S.1 (ix t.toInt32) - 16)) := z
    rw [hR.1, bI_inj] at z
    have hkk : (tIsNum (hTy S.1 (ix t.toInt32) - 16) != decide (rK S.2.2 = 0)) = true := by
      cases ha : tIsNum (hTy S.1 (ix t.toInt32) - 16) <;> cases hb : decide (rK S.2.2 = 0) <;> rw [ha, hb] at z <;> first | rfl | cases z
    rw [hkk] at h9
    exact h9 9 (by decide) rfl
