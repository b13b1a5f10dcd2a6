/-! two parts: sum, quotient, sameness -/
theorem vOK_same {h h' : SH} {k k' : Int32} {a : Int64} (h1 : vOK h k a) (h2 : vOK h' k' a) (hk : (k = 0) = (k' = 0)) : k = k' := by
  by_cases h0 : k = 0
  · have h3 : k' = 0 := by rw [← hk]; exact h0
    rw [h0, h3]
  · have h3 : ¬ k' = 0 := by rw [← hk]; exact h0
    rcases vOK_ref h1 h0 with x | x
    · rcases vOK_ref h2 h3 with y | y
      · rw [x.1, y.1]
      · exact absurd x.2.2 y.2.1
    · rcases vOK_ref h2 h3 with y | y
      · exact absurd y.2.2 x.2.1
      · rw [x.1, y.1]
section SIMD
variable {P : SP} {G : Int → UInt64 → Prop} {E : Int32 → SS → SO} {d : Nat} {n0 : Int32} {Q : xQ} {k : Nat} {m0 : MS} {n : Int32}
theorem lp_stepT {s b : Int32} {S : SS} {m : MS} (nc : NC P G E d n0 Q k m0 n) (t : TOP k m0 n s b S m) (hF : rF S.2.2 = 0) (hc : pC P (ix n) = 6 ∨ pC P (ix n) = 7 ∨ pC P (ix n) = 20) (h : ∀ Q' : xQ, (∀ S' m', Lp P d n0 Q S' m' → Q' none (wM P S' m')) → Cd 15 130 [.ref 0, .int n, .int s] (wM P S m) Q') : Lp P d n0 Q S m := by
  rcases hc with hc | hc | hc
  · exact lp_step6 nc t hF hc h
  · exact lp_step7 nc t hF hc h
  · exact lp_step20 nc t hF hc h
set_option maxRecDepth 100000 in
set_option maxHeartbeats 1000000 in
theorem sim_two_end {S : SS} {m : MS} {b kk : Int32} {a : Int64} {h0 : SH} (nc : NC P G E d n0 Q k m0 n) (hF : rF S.2.2 = 0) (t : TOP k m0 n 2 b S m) (hb : vH S.2.1 = b) (hR : RES S m) (hV : vOK S.1 (rK S.2.2) (rA S.2.2)) (hV0 : vOK h0 kk a) (ha : a = mFirst m (ix (mDeep m - 1))) (hk : mFRef m (ix (mDeep m - 1)) = bI (!decide (kk = 0))) (hc : pC P (ix n) = 6 ∨ pC P (ix n) = 7 ∨ pC P (ix n) = 20) (hK : KO P d n0 Q k m0 (oAnd (oNum20 P S n) (fun S => oTwo P n kk a S))) : Lp P d n0 Q S m := by
  have hn := nc.nin
  obtain ⟨e1, e2⟩ := t.d1 nc.k90
  have hn25 : ∀ s : Int32, pC P (ix n) = 25 → s ≠ 1 := fun s z => by rcases hc with hc | hc | hc <;> exact absurd (hc.symm.trans z) (by decide)
  have hg : ∀ v : Int64, KO P d n0 Q k m0 (true, sGive S 0 v) → Lp P d n0 Q (mGive S m 0 v).1 (mGive S m 0 v).2 := fun v hK => lp_give nc t hb rfl hK
  have hf : ∀ c : Int32, 0 < c.toInt → KO P d n0 Q k m0 (false, sFail S c n) → Lp P d n0 Q (sFail S c n) m := fun c hc hK => lp_fail nc t hb (fun z => hn25 _ z) hc hK
  refine lp_stepT nc t hF hc (fun Q' hQ => ?_)
  refine Cd.mk cdX8_stepTwo 4 4 2 [(0, .ref 0), (1, .int n), (2, .int 2)] rfl rfl rfl rfl 100 ?_
  refine And.intro (fun _ => ?_) (fun z => absurd z (by decide))
  refine And.intro (fun _ => ?_) (fun z => absurd z (by decide))
  refine And.intro hn ?_
  refine And.intro (fun h20 => ?_) (fun h20 => ?_)
  · have e20 : decide (pC P (ix n) = 20) = false := decide_eq_false h20
    unfold oNum20 at hK
    rw [e20, cond_false] at hK
    by_cases hz : rK S.2.2 = 0
    · refine m_wnumT (by decide) n hR hz ?_
      refine And.intro (fun z => absurd z ne10) (fun _ => ?_)
      simp only [oNum_T hz] at hK
      have hK : KO P d n0 Q k m0 (oTwo P n kk a S) := hK
      unfold oTwo at hK
      rw [e20, cond_false] at hK
      refine And.intro hn ?_
      refine And.intro (fun h6 => ?_) (fun h6 => ?_)
      · rw [decide_eq_false h6, cond_false] at hK
        refine And.intro (fun z => ?_) (fun z => ?_)
        · rw [lc_0, hR.2] at z
          rw [decide_eq_false z, cond_false, ha] at hK
          refine And.intro (fun y => ?_) (fun y => ?_)
          · rw [lc_0] at y
            refine And.intro e2 ?_
            refine And.intro (by rw [hR.2]; exact z) ?_
            refine m_number (by decide) _ e2 ?_
            rw [hR.2]
            exact hQ _ _ (hg _ hK)
          · rw [lc_0, hR.2] at y
            rw [y, ← l_divm1] at hK
            refine And.intro e2 ?_
            refine m_number (by decide) _ e2 ?_
            exact hQ _ _ (hg _ hK)
        · rw [lc_0, hR.2] at z
          rw [decide_eq_true z, cond_true] at hK
          refine m_fail (by decide) _ _ ?_
          exact hQ _ _ (hf 8 (by decide) hK)
      · rw [decide_eq_true h6, cond_true, ha, ← hR.2] at hK
        refine And.intro e2 ?_
        refine m_number (by decide) _ e2 ?_
        exact hQ _ _ (hg _ hK)
    · refine m_wnumF (by decide) n hR hz ?_
      refine And.intro (fun _ => ?_) (fun z => absurd rfl z)
      simp only [oNum_F hz] at hK
      exact hQ _ _ (hf 9 (by decide) hK)
  · have h20 : pC P (ix n) = 20 := h20
    have e20 : decide (pC P (ix n) = 20) = true := decide_eq_true h20
    unfold oNum20 at hK
    rw [e20, cond_true] at hK
    have hK : KO P d n0 Q k m0 (oTwo P n kk a S) := hK
    unfold oTwo at hK
    rw [dne h20 (show (20 : Int32) ≠ 6 by decide), e20, cond_true, cond_false] at hK
    unfold oSame at hK
    refine And.intro e2 ?_
    refine And.intro (fun z => ?_) (fun z => ?_)
    · have z : mFRef m (ix (mDeep m - 1)) = mRef m := z
      rw [hk, hR.1, bI_inj] at z
      have hkk : decide (kk = 0) = decide (rK S.2.2 = 0) := by
        cases ha : decide (kk = 0) <;> cases hb : decide (rK S.2.2 = 0) <;> rw [ha, hb] at z <;> first | rfl | cases z
      rw [hkk, bne_self_eq_false, cond_false] at hK
      refine And.intro e2 ?_
      refine And.intro (fun y => ?_) (fun y => ?_)
      · rw [lc_0, ← ha, hR.2] at y
        rw [decide_eq_false (show ¬ rA S.2.2 = a from fun q => y q.symm), Bool.and_false] at hK
        refine m_number (by decide) _ e2 ?_
        exact hQ _ _ (hg _ hK)
      · rw [lc_0, ← ha, hR.2] at y
        have : rK S.2.2 = kk := by
          rw [← y] at hV
          refine vOK_same hV hV0 ?_
          exact decide_eq_decide.mp hkk.symm |> propext
        rw [decide_eq_true this, decide_eq_true y.symm] at hK
        refine m_number (by decide) _ e2 ?_
        exact hQ _ _ (hg _ hK)
    · have z : ¬ mFRef m (ix (mDeep m - 1)) = mRef m := z
      rw [hk, hR.1, bI_inj] at z
      have hkk : (decide (rK S.2.2 = 0) != decide (kk = 0)) = true := by
        cases ha : decide (kk = 0) <;> cases hb : decide (rK S.2.2 = 0) <;> rw [ha, hb] at z <;> first | rfl | exact absurd rfl z
      rw [hkk, cond_true] at hK
      refine m_fail (by decide) _ _ ?_
      exact hQ _ _ (hf 9 (by decide) hK)
set_option maxRecDepth 100000 in
set_option maxHeartbeats 1000000 in
theorem sim_two {κ : Int} {S : SS} {m : MS} (nc : NC P G E d n0 Q k m0 n) (hI : Inv G κ S) (hF : rF S.2.2 = 0) (hH : (vH S.2.1).toInt ≤ HB P n) (t : TOP k m0 n 0 (vH S.2.1) S m) (hc : pC P (ix n) = 6 ∨ pC P (ix n) = 7 ∨ pC P (ix n) = 20) (hK : KO P d n0 Q k m0 (eTwo P E n S)) : Lp P d n0 Q S m := by
  have hfit := pFit nc.wf nc.nd
  have hfit2 := Bool.and_eq_true_iff.mp (show (pIsNode (pPre P (ix n)) (pa P (ix n)) && pIsNode (pPre P (ix n)) (pb P (ix n))) = true by
    rcases hc with hc | hc | hc <;> rw [hc] at hfit <;> exact hfit)
  have hk1 := pKid nc.nd hfit2.1
  have hk2 := pKid nc.nd hfit2.2
  have hn := nc.nin
  have hn25 : ∀ s : Int32, pC P (ix n) = 25 → s ≠ 1 := fun s z => by rcases hc with hc | hc | hc <;> exact absurd (hc.symm.trans z) (by decide)
  unfold eTwo at hK
  refine lp_stepT nc t hF hc (fun Q' hQ => ?_)
  refine Cd.mk cdX8_stepTwo 4 4 2 [(0, .ref 0), (1, .int n), (2, .int 0)] rfl rfl rfl rfl 100 ?_
  refine And.intro (fun z => absurd rfl z) (fun _ => ?_)
  refine And.intro hn ?_
  refine m_next (by decide) _ (pIsNode_in nc.wf.1 hk1.1) (t.deepin nc.k90) (t.d1 nc.k90).2 ?_
  refine hQ _ _ ?_
  refine lp_next nc t hI hF hk1.1 hk1.2 (HB_kid hk1.2 hH) rfl (fun z => hn25 _ z) hK ?_
  intro hx hK hI hF hV hvh m t hkp hR
  generalize (E (pa P (ix n)) S).2 = S1 at *
  obtain ⟨e1, e2⟩ := t.d1 nc.k90
  have hnext : KO P d n0 Q k m0 (oAnd (E (pb P (ix n)) S1) (fun S2 => oAnd (oNum20 P S2 n) (fun S2 => oTwo P n (rK S1.2.2) (rA S1.2.2) S2))) → Lp P d n0 Q (mNext P S1 (mSetFirst m (ix (mDeep m - 1)) (mRef m &&& 1) (mCame m)) (pb P (ix n))).1 (mNext P S1 (mSetFirst m (ix (mDeep m - 1)) (mRef m &&& 1) (mCame m)) (pb P (ix n))).2 := by
    intro hK
    rw [e1]
    refine lp_next nc (t.first _ _) hI hF hk2.1 hk2.2 (HB_kid hk2.2 (by rw [hvh]; exact hH)) hvh (fun z => hn25 _ z) hK ?_
    intro hx2 hK2 hI2 hF2 hV2 hvh2 m2 t2 hkp2 hR2
    refine sim_two_end (h0 := S1.1) (kk := rK S1.2.2) (a := rA S1.2.2) nc hF2 (by exact t2) hvh2 hR2 hV2 hV ?_ ?_ hc hK2
    · rw [(t2.d1 nc.k90).1, hkp2.2.2.1, ← hR.2]
      exact (x_up_self _ _ _).symm
    · rw [(t2.d1 nc.k90).1, hkp2.2.1, ← bI_and, ← hR.1]
      exact x_up_self _ _ _
  refine lp_stepT nc t hF hc (fun Q' hQ => ?_)
  refine Cd.mk cdX8_stepTwo 4 4 2 [(0, .ref 0), (1, .int n), (2, .int 1)] rfl rfl rfl rfl 100 ?_
  refine And.intro (fun _ => ?_) (fun z => absurd z (by decide))
  refine And.intro (fun z => absurd rfl z) (fun _ => ?_)
  refine And.intro hn ?_
  refine And.intro (fun h20 => ?_) (fun h20 => ?_)
  · have h20 : pC P (ix n) = 20 := h20
    simp only [oNum20, decide_eq_true h20, cond_true] at hK
    refine And.intro e2 ?_
    refine And.intro e2 ?_
    refine And.intro hn ?_
    refine m_next (m := mSetFirst m (ix (mDeep m - 1)) (mRef m &&& 1) (mCame m)) (by decide) _ (pIsNode_in nc.wf.1 hk2.1) (t.deepin nc.k90) (t.d1 nc.k90).2 ?_
    refine hQ _ _ (hnext ?_)
    simp only [oNum20, decide_eq_true h20, cond_true]
    exact hK
  · have h20 : ¬ pC P (ix n) = 20 := h20
    simp only [oNum20, decide_eq_false h20, cond_false] at hK
    by_cases hz : rK S1.2.2 = 0
    · refine m_wnumT (by decide) n hR hz ?_
      refine And.intro (fun z => absurd z ne10) (fun _ => ?_)
      rw [oNum_T hz] at hK
      refine And.intro e2 ?_
      refine And.intro e2 ?_
      refine And.intro hn ?_
      refine m_next (m := mSetFirst m (ix (mDeep m - 1)) (mRef m &&& 1) (mCame m)) (by decide) _ (pIsNode_in nc.wf.1 hk2.1) (t.deepin nc.k90) (t.d1 nc.k90).2 ?_
      refine hQ _ _ (hnext ?_)
      simp only [oNum20, decide_eq_false h20, cond_false]
      exact hK
    · refine m_wnumF (by decide) n hR hz ?_
      refine And.intro (fun _ => ?_) (fun z => absurd rfl z)
      rw [oNum_F hz] at hK
      exact hQ _ _ (lp_fail nc t hvh (fun z => hn25 _ z) (by decide) hK)
end SIMD
