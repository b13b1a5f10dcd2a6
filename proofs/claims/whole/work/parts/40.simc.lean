/-! catch, two, new, cast, is -/
theorem l_divm1 (a : Int64) : -a = a / -1 := by
  apply Int64.toInt_inj.mp
  rw [Int64.toInt_div, Int64.toInt_neg, show (-1 : Int64).toInt = -1 from rfl, Int.tdiv_neg, Int.tdiv_one]
section SIMC
variable {P : SP} {G : Int → UInt64 → Prop} {E : Int32 → SS → SO} {d : Nat} {n0 : Int32} {Q : xQ} {k : Nat} {m0 : MS} {n : Int32}
set_option maxRecDepth 100000 in
set_option maxHeartbeats 1000000 in
theorem lp_take {b : Int32} {κ : Int} {S : SS} {m : MS} {f : SS → SO} (nc : NC P G E d n0 Q k m0 n) (t : TOP k m0 n 1 b S m) (hI : Inv G κ S) (hF : 0 < (rF S.2.2).toInt) (hb : vH S.2.1 = b) (hc : pC P (ix n) = 25) (hv : isVar (pc' P (ix n)) = true) (hkb : pIsNode P (pb P (ix n)) = true) (hK : KO P d n0 Q k m0 (oAnd (oTake P S n) f)) (h : (oTake P S n).1 = true → KO P d n0 Q k m0 (f (oTake P S n).2) → ∀ m', TOP k m0 n 1 b (oTake P S n).2 m' → Lp P d n0 Q (mNext P (oTake P S n).2 m' (pb P (ix n))).1 (mNext P (oTake P S n).2 m' (pb P (ix n))).2) : Lp P d n0 Q S m := by
  have hd := nc.deep
  have hk := nc.k90
  have hn := nc.nin
  unfold Lp
  refine Ev.go (Cd.mono d) [61] 100 ?_
  refine And.intro (fun h1 => absurd h1 (by show ¬ mDeep m ≤ 0; rw [t.2.1]; exact nI_pos1 (by omega))) (fun _ => ?_)
  refine And.intro (fun h1 => absurd (i_le h1) (by show ¬ (rF S.2.2).toInt ≤ 0; omega)) (fun _ => ?_)
  refine Cd.up (show 10 ≤ d by omega) ?_
  refine Cd.mk cdX8_unwind 3 4 0 [(0, .ref 0)] rfl rfl rfl rfl 100 ?_
  obtain ⟨e1, e2⟩ := t.d1 hk
  have eat : n = mAt m (ix (mDeep m - 1)) := by rw [e1]; exact t.2.2.2.1.symm
  have est : mStage m (ix (mDeep m - 1)) = 1 := by rw [e1]; exact t.2.2.2.2.1
  have ebs : mBase m (ix (mDeep m - 1)) = b := by rw [e1]; exact t.2.2.2.2.2
  have hn' : vp_in (mAt m (ix (mDeep m - 1))) 80 := by rw [← eat]; exact hn
  have hc' : pC P (ix (mAt m (ix (mDeep m - 1)))) = 25 := by rw [← eat]; exact hc
  have hvi' : vp_in (pc' P (ix (mAt m (ix (mDeep m - 1))))) 8 := by rw [← eat]; exact isVar_in hv
  have hpb' : vp_in (pb P (ix (mAt m (ix (mDeep m - 1))))) 80 := by rw [← eat]; exact pIsNode_in nc.wf.1 hkb
  refine And.intro e2 ?_
  refine And.intro hn' ?_
  refine And.intro (fun z => absurd hc' z) (fun _ => ?_)
  refine And.intro e2 ?_
  refine And.intro (fun z => absurd est z) (fun _ => ?_)
  refine And.intro (fun h10 => ?_) (fun h10 => ?_)
  · have h10 : rF S.2.2 = 10 := h10
    have ek : oTake P S n = (false, S) := by unfold oTake; rw [decide_eq_true h10]; rfl
    rw [ek] at hK
    have hK : KO P d n0 Q k m0 (false, S) := hK
    have hend := hK (mPop m) (by have := t.pop b; rw [sHeld_same hb] at this; exact this) (fun z => by cases z)
    rw [← sHeld_same hb, ← ebs] at hend
    refine And.intro hn' ?_
    refine And.intro (fun z => absurd hc' z) (fun _ => ?_)
    refine And.intro e2 ?_
    refine And.intro (fun z => absurd est z) (fun _ => ?_)
    refine And.intro (fun _ => ?_) (fun z => absurd h10 z)
    refine And.intro e2 ?_
    exact hend
  · have h10 : ¬ rF S.2.2 = 10 := h10
    refine And.intro (fun h40 => ?_) (fun h40 => ?_)
    · have h40 : ¬ rC S.2.2 = 40 := h40
      have hlt : rC S.2.2 < 40 := by
        have h1 := hI.2.2.2.2.2.2.1
        have h2 : (rC S.2.2).toInt ≠ 40 := fun z => h40 (Int32.toInt_inj.mp z)
        rw [Int32.lt_iff_toInt_lt]
        show (rC S.2.2).toInt < 40
        omega
      have ek : oTake P S n = (true, (S.1, (x_up (vK S.2.1) (ix (pc' P (ix n))) 0, x_up (vA S.2.1) (ix (pc' P (ix n))) (rF S.2.2).toInt64, vT S.2.1, vHK S.2.1, vHA S.2.1, vH S.2.1), (rK S.2.2, rA S.2.2, 0, -1, rN S.2.2, rT S.2.2, rC S.2.2 + 1))) := by
        unfold oTake
        rw [decide_eq_false h10, decide_eq_true hlt]
        simp only [sVar, hv, cond_true, cond_false, Bool.not_true]
        rfl
      rw [ek] at hK h
      have h0 : (0 &&& 1 : Int32) = bI (!decide ((0 : Int32) = 0)) := by decide
      have hend := h rfl hK (mSetVar m (ix (pc' P (ix n))) (0 &&& 1)) ⟨⟨by rw [h0]; exact rel_up t.1.1 _ _, t.1.2⟩, t.2⟩
      rw [hb, ← ebs, eat] at hend
      refine And.intro hn' ?_
      refine And.intro (fun z => absurd hc' z) (fun _ => ?_)
      refine And.intro e2 ?_
      refine And.intro (fun z => absurd est z) (fun _ => ?_)
      refine And.intro (fun z => absurd z h10) (fun _ => ?_)
      refine And.intro hn' ?_
      refine And.intro hvi' ?_
      refine And.intro hn' ?_
      refine And.intro hvi' ?_
      refine And.intro e2 ?_
      refine And.intro hn' ?_
      refine m_next (S := (S.1, (x_up (vK S.2.1) (ix (pc' P (ix (mAt m (ix (mDeep m - 1)))))) 0, x_up (vA S.2.1) (ix (pc' P (ix (mAt m (ix (mDeep m - 1)))))) (rF S.2.2).toInt64, vT S.2.1, vHK S.2.1, vHA S.2.1, mBase m (ix (mDeep m - 1))), (rK S.2.2, rA S.2.2, 0, -1, rN S.2.2, rT S.2.2, rC S.2.2 + 1))) (m := mSetVar m (ix (pc' P (ix (mAt m (ix (mDeep m - 1)))))) (0 &&& 1)) (by decide) _ hpb' (t.deepin hk) e2 ?_
      exact hend
    · have h40 : rC S.2.2 = 40 := h40
      have ek : oTake P S n = (false, sFail S 10 n) := by
        unfold oTake
        rw [decide_eq_false h10, decide_eq_false (show ¬ rC S.2.2 < 40 by rw [h40]; decide)]
        rfl
      rw [ek] at hK
      have hK : KO P d n0 Q k m0 (false, sFail S 10 n) := hK
      have hb2 : vH (sFail S 10 n).2.1 = b := hb
      have hend := hK (mPop m) (by have := TOP.pop (S := sFail S 10 n) t b; rw [sHeld_same hb2] at this; exact this) (fun z => by cases z)
      rw [← sHeld_same hb2, ← ebs, eat] at hend
      refine m_fail (by decide) _ _ ?_
      refine And.intro hn' ?_
      refine And.intro (fun z => absurd hc' z) (fun _ => ?_)
      refine And.intro e2 ?_
      refine And.intro (fun z => absurd est z) (fun _ => ?_)
      refine And.intro (fun _ => ?_) (fun z => absurd rfl z)
      refine And.intro e2 ?_
      exact hend
set_option maxRecDepth 100000 in
set_option maxHeartbeats 1000000 in
theorem sim_25_end {s : Int32} {S : SS} {m : MS} (nc : NC P G E d n0 Q k m0 n) (hF : rF S.2.2 = 0) {b : Int32} (t : TOP k m0 n s b S m) (hb : vH S.2.1 = b) (hR : RES S m) (hs : s = 1 ∨ s = 2) (hc : pC P (ix n) = 25) (hK : KO P d n0 Q k m0 (true, S)) : Lp P d n0 Q S m := by
  have hn := nc.nin
  have hend := lp_same nc t hb hR hK
  refine lp_step25 nc t hF hc (fun Q' hQ => ?_)
  rcases hs with hs | hs <;> subst hs
  · refine Cd.mk cdX8_stepThen 4 4 2 [(0, .ref 0), (1, .int n), (2, .int 1)] rfl rfl rfl rfl 100 ?_
    refine And.intro hn ?_
    refine And.intro (fun _ => ?_) (fun z => absurd z (by decide))
    refine And.intro (fun z => absurd rfl z) (fun _ => ?_)
    refine And.intro (fun _ => ?_) (fun z => absurd (hc.symm.trans z) (by decide))
    refine And.intro (fun z => absurd rfl z) (fun _ => ?_)
    refine And.intro (fun _ => ?_) (fun z => absurd (hc.symm.trans z) (by decide))
    refine m_give (by decide) _ _ (by rw [hR.1]; exact bI01 _) (t.d1 nc.k90).2 ?_
    exact hQ _ _ hend
  · refine Cd.mk cdX8_stepThen 4 4 2 [(0, .ref 0), (1, .int n), (2, .int 2)] rfl rfl rfl rfl 100 ?_
    refine And.intro hn ?_
    refine And.intro (fun _ => ?_) (fun z => absurd z (by decide))
    refine And.intro (fun _ => ?_) (fun z => absurd z (by decide))
    refine And.intro (fun _ => ?_) (fun z => absurd z (by decide))
    refine m_give (by decide) _ _ (by rw [hR.1]; exact bI01 _) (t.d1 nc.k90).2 ?_
    exact hQ _ _ hend
set_option maxRecDepth 100000 in
set_option maxHeartbeats 1000000 in
theorem sim_25 {κ : Int} {S : SS} {m : MS} (nc : NC P G E d n0 Q k m0 n) (hI : Inv G κ S) (htk : ∀ S n, Inv G κ S → (oTake P S n).1 = true → Inv G κ (oTake P S n).2) (hF : rF S.2.2 = 0) (hH : (vH S.2.1).toInt ≤ HB P n) (t : TOP k m0 n 0 (vH S.2.1) S m) (hc : pC P (ix n) = 25) (hK : KO P d n0 Q k m0 (bif (E (pa P (ix n)) S).1 then E (pa P (ix n)) S else oAnd (oTake P (E (pa P (ix n)) S).2 n) (fun S => E (pb P (ix n)) S))) : Lp P d n0 Q S m := by
  have hfit := pFit nc.wf nc.nd
  rw [hc] at hfit
  have hfit2 := Bool.and_eq_true_iff.mp (show (pIsNode (pPre P (ix n)) (pa P (ix n)) && (pIsNode (pPre P (ix n)) (pb P (ix n)) && isVar (pc' P (ix n)))) = true from hfit)
  have hfit3 := Bool.and_eq_true_iff.mp hfit2.2
  have hk1 := pKid nc.nd hfit2.1
  have hk2 := pKid nc.nd hfit3.1
  have hn := nc.nin
  obtain ⟨i1, i2, i3, i4, i5⟩ := nc.ex _ hk1.1 hk1.2 κ S hI hF
  refine lp_step25 nc t hF hc (fun Q' hQ => ?_)
  refine Cd.mk cdX8_stepThen 4 4 2 [(0, .ref 0), (1, .int n), (2, .int 0)] rfl rfl rfl rfl 100 ?_
  refine And.intro hn ?_
  refine And.intro (fun z => absurd rfl z) (fun _ => ?_)
  refine And.intro hn ?_
  refine m_next (by decide) _ (pIsNode_in nc.wf.1 hk1.1) (t.deepin nc.k90) (t.d1 nc.k90).2 ?_
  refine hQ _ _ ?_
  refine lp_next0 nc t hI hF hk1.1 hk1.2 (HB_kid hk1.2 hH) ?_ ?_
  · intro hx m t
    rw [hx, cond_false] at hK
    refine lp_take nc t i1 (i3 hx) i4 hc hfit3.2 hk2.1 hK ?_
    intro ht hK m t
    have i6 := htk _ _ i1 ht
    have i7 : rF (oTake P (E (pa P (ix n)) S).2 n).2.2.2 = 0 ∧ vH (oTake P (E (pa P (ix n)) S).2 n).2.2.1 = vH (E (pa P (ix n)) S).2.2.1 := by
      unfold oTake at ht ⊢
      cases h1 : decide (rF (E (pa P (ix n)) S).2.2.2 = 10)
      · rw [h1] at ht
        cases h2 : decide (rC (E (pa P (ix n)) S).2.2.2 < 40)
        · rw [h2] at ht; cases ht
        · simp only [sVar, hfit3.2, cond_true, cond_false, Bool.not_true]
          exact ⟨rfl, rfl⟩
      · rw [h1] at ht; cases ht
    generalize (oTake P (E (pa P (ix n)) S).2 n).2 = S1 at *
    have hK : KO P d n0 Q k m0 (E (pb P (ix n)) S1) := hK
    rw [← oAnd_id (E (pb P (ix n)) S1)] at hK
    refine lp_next nc t i6 i7.1 hk2.1 hk2.2 (HB_kid hk2.2 (by rw [i7.2, i4]; exact hH)) (i7.2.trans i4) (fun _ => by decide) hK ?_
    intro hx hK hI hF hV hvh m t hkp hR
    exact sim_25_end nc hF t hvh hR (Or.inr rfl) hc hK
  · intro hx m t hkp hR
    rw [hx, cond_true] at hK
    have e : E (pa P (ix n)) S = (true, (E (pa P (ix n)) S).2) := by rw [← hx]
    rw [e] at hK
    exact sim_25_end nc (i2 hx).1 t i4 hR (Or.inl rfl) hc hK
end SIMC
