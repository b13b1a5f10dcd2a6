/-! nodes with one or two parts -/
theorem oAnd_id (x : SO) : oAnd x (fun S => (true, S)) = x := by
  obtain ⟨b, S⟩ := x
  cases b <;> rfl
theorem oNum_T {S : SS} {n : Int32} (h : rK S.2.2 = 0) : oNum S n = (true, S) := by unfold oNum; rw [decide_eq_true h]; rfl
theorem oNum_F {S : SS} {n : Int32} (h : ¬ rK S.2.2 = 0) : oNum S n = (false, sFail S 9 n) := by unfold oNum; rw [decide_eq_false h]; rfl
theorem RES.ref0 {S : SS} {m : MS} (hR : RES S m) (h : rK S.2.2 = 0) : mRef m = 0 := by rw [hR.1, decide_eq_true h]; rfl
theorem RES.ref1 {S : SS} {m : MS} (hR : RES S m) (h : ¬ rK S.2.2 = 0) : mRef m = 1 := by rw [hR.1, decide_eq_false h]; rfl
theorem ne10 : ¬ (1 : Int32) = 0 := by decide
theorem m_wnumT {D : Nat} (hD : 2 ≤ D) {P : SP} {S : SS} {m : MS} {Q : xQ} (n : Int32) (hR : RES S m) (hz : rK S.2.2 = 0) (h : Q (some (.int 1)) (wM P S m)) : Cd D 129 [.ref 0, .int n] (wM P S m) Q := by
  refine m_wantsNumber hD n ?_
  unfold mWNum
  rw [decide_eq_true (hR.ref0 hz)]
  exact h
theorem m_wnumF {D : Nat} (hD : 2 ≤ D) {P : SP} {S : SS} {m : MS} {Q : xQ} (n : Int32) (hR : RES S m) (hz : ¬ rK S.2.2 = 0) (h : Q (some (.int 0)) (wM P (sFail S 9 n) m)) : Cd D 129 [.ref 0, .int n] (wM P S m) Q := by
  refine m_wantsNumber hD n ?_
  unfold mWNum
  rw [decide_eq_false (by rw [hR.ref1 hz]; exact ne10)]
  exact h
def mSetFirst (m : MS) (i : Nat) (r : Int32) (v : Int64) : MS := (m.1, (mDeep m, mAt m, mStage m, mIndex m, x_up (mFRef m) i r, x_up (mFirst m) i v, m.2.1.2.2.2.2.2.2), m.2.2)
theorem TOP.first {k : Nat} {m0 : MS} {n s b : Int32} {S : SS} {m : MS} (t : TOP k m0 n s b S m) (r : Int32) (v : Int64) : TOP k m0 n s b S (mSetFirst m k r v) := by
  refine ⟨t.1, t.2.1, ?_, t.2.2.2⟩
  intro j hj
  rw [← t.2.2.1 j hj]
  unfold mRow mSetFirst
  simp only [mStage, mAt, mIndex, mFRef, mFirst, mSecond, mThird, mFourth, mReal, mBase]
  rw [x_up_ne _ _ (by omega), x_up_ne _ _ (by omega)]
theorem TOP.deepin {k : Nat} {m0 : MS} {n s b : Int32} {S : SS} {m : MS} (t : TOP k m0 n s b S m) (hk : k ≤ 90) : vp_in (mDeep m) 100 := by
  rw [t.2.1]; exact vp_in_nI (by omega) (by omega)
section SIMB
variable {P : SP} {G : Int → UInt64 → Prop} {E : Int32 → SS → SO} {d : Nat} {n0 : Int32} {Q : xQ} {k : Nat} {m0 : MS} {n : Int32}
set_option maxRecDepth 100000 in
set_option maxHeartbeats 1000000 in
theorem sim_4 {κ : Int} {S : SS} {m : MS} (nc : NC P G E d n0 Q k m0 n) (hI : Inv G κ S) (hIN : Inv G κ (sNote S (pa P (ix n)))) (hF : rF S.2.2 = 0) (hH : (vH S.2.1).toInt ≤ HB P n) (t : TOP k m0 n 0 (vH S.2.1) S m) (hc : pC P (ix n) = 4) (hK : KO P d n0 Q k m0 (E (pb P (ix n)) (sNote S (pa P (ix n))))) : Lp P d n0 Q S m := by
  have hfit := pFit nc.wf nc.nd
  rw [hc] at hfit
  have hk1 := pKid nc.nd (show pIsNode (pPre P (ix n)) (pb P (ix n)) = true from hfit)
  have hn := nc.nin
  have hn25 : ∀ s : Int32, pC P (ix n) = 25 → s ≠ 1 := fun s z => absurd (hc.symm.trans z) (by decide)
  rw [← oAnd_id (E (pb P (ix n)) (sNote S (pa P (ix n))))] at hK
  have hnext : Lp P d n0 Q (mNext P (sNote S (pa P (ix n))) m (pb P (ix n))).1 (mNext P (sNote S (pa P (ix n))) m (pb P (ix n))).2 := by
    refine lp_next (S := sNote S (pa P (ix n))) nc (by exact t) hIN hF hk1.1 hk1.2 (HB_kid hk1.2 (by exact hH)) rfl (fun z => hn25 _ z) hK ?_
    intro hx hK hI hF hV hvh m t hkp hR
    generalize (E (pb P (ix n)) (sNote S (pa P (ix n)))).2 = S1 at *
    refine lp_step4 nc t hF hc (fun Q' hQ => ?_)
    refine Cd.mk cdX8_stepSet 4 4 2 [(0, .ref 0), (1, .int n), (2, .int 1)] rfl rfl rfl rfl 100 ?_
    refine And.intro hn ?_
    refine And.intro (fun _ => ?_) (fun z => absurd z (by decide))
    refine And.intro (fun _ => ?_) (fun z => absurd (hc.symm.trans z) (by decide))
    refine m_give (by decide) _ _ (by rw [hR.1]; exact bI01 _) (t.d1 nc.k90).2 ?_
    exact hQ _ _ (lp_same nc t (by exact hvh) hR hK)
  refine lp_step4 nc t hF hc (fun Q' hQ => ?_)
  refine Cd.mk cdX8_stepSet 4 4 2 [(0, .ref 0), (1, .int n), (2, .int 0)] rfl rfl rfl rfl 100 ?_
  have hrt := hI.2.2.2.2.1.1
  have hpin := pIsNode_in nc.wf.1 hk1.1
  refine And.intro hn ?_
  refine And.intro (fun z => absurd rfl z) (fun _ => ?_)
  refine And.intro (fun z => absurd hc z) (fun _ => ?_)
  refine And.intro (fun h1 => ?_) (fun h1 => ?_)
  · have e : sNote S (pa P (ix n)) = (S.1, (vK S.2.1, vA S.2.1, vT S.2.1, vHK S.2.1, vHA S.2.1, vH S.2.1), (rK S.2.2, rA S.2.2, rF S.2.2, rW S.2.2, rN S.2.2, rT S.2.2 + 1, rC S.2.2)) := by
      unfold sNote
      rw [decide_eq_true h1]
      rfl
    rw [e] at hnext
    refine And.intro hn ?_
    refine m_next (S := (S.1, (vK S.2.1, vA S.2.1, vT S.2.1, vHK S.2.1, vHA S.2.1, vH S.2.1), (rK S.2.2, rA S.2.2, rF S.2.2, rW S.2.2, rN S.2.2, rT S.2.2 + 1, rC S.2.2))) (m := m) (by decide) _ hpin (t.deepin nc.k90) (t.d1 nc.k90).2 ?_
    exact hQ _ _ hnext
  · have e : sNote S (pa P (ix n)) = (S.1, (vK S.2.1, vA S.2.1, x_up (vT S.2.1) (ix (rT S.2.2)) (pa P (ix n)), vHK S.2.1, vHA S.2.1, vH S.2.1), (rK S.2.2, rA S.2.2, rF S.2.2, rW S.2.2, rN S.2.2, rT S.2.2 + 1, rC S.2.2)) := by
      unfold sNote
      rw [decide_eq_false h1]
      rfl
    rw [e] at hnext
    refine And.intro hn ?_
    refine And.intro (vp_in_iff.mpr ⟨hrt, by have := i_not_le h1; have h3 : (256 : Int32).toInt = 256 := rfl; show (rT S.2.2).toInt < 256; omega⟩) ?_
    refine And.intro hn ?_
    refine m_next (S := (S.1, (vK S.2.1, vA S.2.1, x_up (vT S.2.1) (ix (rT S.2.2)) (pa P (ix n)), vHK S.2.1, vHA S.2.1, vH S.2.1), (rK S.2.2, rA S.2.2, rF S.2.2, rW S.2.2, rN S.2.2, rT S.2.2 + 1, rC S.2.2))) (m := m) (by decide) _ hpin (t.deepin nc.k90) (t.d1 nc.k90).2 ?_
    exact hQ _ _ hnext
set_option maxRecDepth 100000 in
set_option maxHeartbeats 1000000 in
theorem sim_23 {κ : Int} {S : SS} {m : MS} (nc : NC P G E d n0 Q k m0 n) (hI : Inv G κ S) (hF : rF S.2.2 = 0) (hH : (vH S.2.1).toInt ≤ HB P n) (t : TOP k m0 n 0 (vH S.2.1) S m) (hc : pC P (ix n) = 23) (hK : KO P d n0 Q k m0 (oAnd (E (pa P (ix n)) S) (fun S => E (pb P (ix n)) S))) : Lp P d n0 Q S m := by
  have hfit := pFit nc.wf nc.nd
  rw [hc] at hfit
  have hfit2 := Bool.and_eq_true_iff.mp (show (pIsNode (pPre P (ix n)) (pa P (ix n)) && pIsNode (pPre P (ix n)) (pb P (ix n))) = true from hfit)
  have hk1 := pKid nc.nd hfit2.1
  have hk2 := pKid nc.nd hfit2.2
  have hn := nc.nin
  have hn25 : ∀ s : Int32, pC P (ix n) = 25 → s ≠ 1 := fun s z => absurd (hc.symm.trans z) (by decide)
  refine lp_step23 nc t hF hc (fun Q' hQ => ?_)
  refine Cd.mk cdX8_stepThen 4 4 2 [(0, .ref 0), (1, .int n), (2, .int 0)] rfl rfl rfl rfl 100 ?_
  refine And.intro hn ?_
  refine And.intro (fun z => absurd rfl z) (fun _ => ?_)
  refine And.intro hn ?_
  refine m_next (by decide) _ (pIsNode_in nc.wf.1 hk1.1) (t.deepin nc.k90) (t.d1 nc.k90).2 ?_
  refine hQ _ _ ?_
  refine lp_next nc t hI hF hk1.1 hk1.2 (HB_kid hk1.2 hH) rfl (fun z => hn25 _ z) hK ?_
  intro hx hK hI hF hV hvh m t hkp hR
  generalize (E (pa P (ix n)) S).2 = S1 at *
  refine lp_step23 nc t hF hc (fun Q' hQ => ?_)
  refine Cd.mk cdX8_stepThen 4 4 2 [(0, .ref 0), (1, .int n), (2, .int 1)] rfl rfl rfl rfl 100 ?_
  refine And.intro hn ?_
  refine And.intro (fun _ => ?_) (fun z => absurd z (by decide))
  refine And.intro (fun z => absurd rfl z) (fun _ => ?_)
  refine And.intro (fun z => absurd hc z) (fun _ => ?_)
  refine And.intro hn ?_
  refine m_next (by decide) _ (pIsNode_in nc.wf.1 hk2.1) (t.deepin nc.k90) (t.d1 nc.k90).2 ?_
  refine hQ _ _ ?_
  have hK : KO P d n0 Q k m0 (E (pb P (ix n)) S1) := hK
  rw [← oAnd_id (E (pb P (ix n)) S1)] at hK
  refine lp_next nc t hI hF hk2.1 hk2.2 (HB_kid hk2.2 (by rw [hvh]; exact hH)) hvh (fun z => hn25 _ z) hK ?_
  intro hx hK hI hF hV hvh m t hkp hR
  generalize (E (pb P (ix n)) S1).2 = S2 at *
  refine lp_step23 nc t hF hc (fun Q' hQ => ?_)
  refine Cd.mk cdX8_stepThen 4 4 2 [(0, .ref 0), (1, .int n), (2, .int 2)] rfl rfl rfl rfl 100 ?_
  refine And.intro hn ?_
  refine And.intro (fun _ => ?_) (fun z => absurd z (by decide))
  refine And.intro (fun _ => ?_) (fun z => absurd z (by decide))
  refine And.intro (fun _ => ?_) (fun z => absurd z (by decide))
  refine m_give (by decide) _ _ (by rw [hR.1]; exact bI01 _) (t.d1 nc.k90).2 ?_
  exact hQ _ _ (lp_same nc t (by exact hvh) hR hK)
set_option maxRecDepth 100000 in
set_option maxHeartbeats 1000000 in
theorem sim_24 {κ : Int} {S : SS} {m : MS} (nc : NC P G E d n0 Q k m0 n) (hI : Inv G κ S) (hF : rF S.2.2 = 0) (hH : (vH S.2.1).toInt ≤ HB P n) (t : TOP k m0 n 0 (vH S.2.1) S m) (hc : pC P (ix n) = 24) (hK : KO P d n0 Q k m0 (oAnd (E (pa P (ix n)) S) (fun S => oAnd (oNum S n) (fun S => E (bif decide (rA S.2.2 = 0) then pc' P (ix n) else pb P (ix n)) S)))) : Lp P d n0 Q S m := by
  have hfit := pFit nc.wf nc.nd
  rw [hc] at hfit
  have hfit2 := Bool.and_eq_true_iff.mp (show (pIsNode (pPre P (ix n)) (pa P (ix n)) && (pIsNode (pPre P (ix n)) (pb P (ix n)) && pIsNode (pPre P (ix n)) (pc' P (ix n)))) = true from hfit)
  have hfit3 := Bool.and_eq_true_iff.mp hfit2.2
  have hk1 := pKid nc.nd hfit2.1
  have hk2 := pKid nc.nd hfit3.1
  have hk3 := pKid nc.nd hfit3.2
  have hn := nc.nin
  have hn25 : ∀ s : Int32, pC P (ix n) = 25 → s ≠ 1 := fun s z => absurd (hc.symm.trans z) (by decide)
  refine lp_step24 nc t hF hc (fun Q' hQ => ?_)
  refine Cd.mk cdX8_stepThen 4 4 2 [(0, .ref 0), (1, .int n), (2, .int 0)] rfl rfl rfl rfl 100 ?_
  refine And.intro hn ?_
  refine And.intro (fun z => absurd rfl z) (fun _ => ?_)
  refine And.intro hn ?_
  refine m_next (by decide) _ (pIsNode_in nc.wf.1 hk1.1) (t.deepin nc.k90) (t.d1 nc.k90).2 ?_
  refine hQ _ _ ?_
  refine lp_next nc t hI hF hk1.1 hk1.2 (HB_kid hk1.2 hH) rfl (fun z => hn25 _ z) hK ?_
  intro hx hK hI hF hV hvh m t hkp hR
  generalize (E (pa P (ix n)) S).2 = S1 at *
  have hfin : ∀ x : Int32, pIsNode P x = true → x.toInt < n.toInt → KO P d n0 Q k m0 (E x S1) → Lp P d n0 Q (mNext P S1 m x).1 (mNext P S1 m x).2 := by
    intro x hx1 hx2 hK
    rw [← oAnd_id (E x S1)] at hK
    refine lp_next nc t hI hF hx1 hx2 (HB_kid hx2 (by rw [hvh]; exact hH)) hvh (fun z => hn25 _ z) hK ?_
    intro hx hK hI hF hV hvh m t hkp hR
    generalize (E x S1).2 = S2 at *
    refine lp_step24 nc t hF hc (fun Q' hQ => ?_)
    refine Cd.mk cdX8_stepThen 4 4 2 [(0, .ref 0), (1, .int n), (2, .int 2)] rfl rfl rfl rfl 100 ?_
    refine And.intro hn ?_
    refine And.intro (fun _ => ?_) (fun z => absurd z (by decide))
    refine And.intro (fun _ => ?_) (fun z => absurd z (by decide))
    refine And.intro (fun _ => ?_) (fun z => absurd z (by decide))
    refine m_give (by decide) _ _ (by rw [hR.1]; exact bI01 _) (t.d1 nc.k90).2 ?_
    exact hQ _ _ (lp_same nc t (by exact hvh) hR hK)
  refine lp_step24 nc t hF hc (fun Q' hQ => ?_)
  refine Cd.mk cdX8_stepThen 4 4 2 [(0, .ref 0), (1, .int n), (2, .int 1)] rfl rfl rfl rfl 100 ?_
  refine And.intro hn ?_
  refine And.intro (fun _ => ?_) (fun z => absurd z (by decide))
  refine And.intro (fun z => absurd rfl z) (fun _ => ?_)
  refine And.intro (fun _ => ?_) (fun z => absurd (hc.symm.trans z) (by decide))
  refine And.intro (fun z => absurd rfl z) (fun _ => ?_)
  refine And.intro (fun z => absurd hc z) (fun _ => ?_)
  by_cases hz : rK S1.2.2 = 0
  · refine m_wnumT (by decide) n hR hz ?_
    refine And.intro (fun z => absurd z ne10) (fun _ => ?_)
    simp only [oNum_T hz] at hK
    have hK : KO P d n0 Q k m0 (E (bif decide (rA S1.2.2 = 0) then pc' P (ix n) else pb P (ix n)) S1) := hK
    refine And.intro (fun z => ?_) (fun z => ?_)
    · rw [lc_0, hR.2] at z
      rw [decide_eq_true z, cond_true] at hK
      refine And.intro hn ?_
      refine m_next (by decide) _ (pIsNode_in nc.wf.1 hk3.1) (t.deepin nc.k90) (t.d1 nc.k90).2 ?_
      exact hQ _ _ (hfin _ hk3.1 hk3.2 hK)
    · rw [lc_0, hR.2] at z
      rw [decide_eq_false z, cond_false] at hK
      refine And.intro hn ?_
      refine m_next (by decide) _ (pIsNode_in nc.wf.1 hk2.1) (t.deepin nc.k90) (t.d1 nc.k90).2 ?_
      exact hQ _ _ (hfin _ hk2.1 hk2.2 hK)
  · refine m_wnumF (by decide) n hR hz ?_
    refine And.intro (fun _ => ?_) (fun z => absurd rfl z)
    simp only [oNum_F hz] at hK
    exact hQ _ _ (lp_fail nc t hvh (fun z => hn25 _ z) (by decide) hK)
end SIMB
