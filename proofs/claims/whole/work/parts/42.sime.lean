/-! new, cast, is -/
theorem thing_facts {h : SH} (hI : hInv h) {t : Nat} (ht : (t : Int) < (hTh h).toInt) : (lN t).toInt32 = nI t ∧ ix (nI t) = t ∧ vp_in (nI t) 400 ∧ hIsThing h (nI t) = true ∧ tIsType (hTy h t) = true := by
  have h1 := hI.1.2.1
  refine ⟨lN_i t, ix_nI (by omega), vp_in_nI (by omega) (by omega), ?_, (hI.2.1 t ht).1⟩
  unfold hIsThing
  have e1 : ¬ nI t < 0 := by
    rw [Int32.lt_iff_toInt_lt, nI_toInt (by omega)]
    show ¬ (t : Int) < 0
    omega
  have e2 : ¬ hTh h ≤ nI t := by
    rw [Int32.le_iff_toInt_le, nI_toInt (by omega)]
    omega
  rw [decide_eq_false e1, decide_eq_false e2]
  rfl
theorem hMk_T {h : SH} {t l e : Int32} (hx : hTh h < 400) : hMk h t l e = (hTh h, (hTh h + 1, hEl h + e, x_up (hTy h) (ix (hTh h)) t, x_up (hSt h) (ix (hTh h)) (hEl h), x_up (hLe h) (ix (hTh h)) l, hAm h, hRe h)) := by
  unfold hMk; rw [decide_eq_true hx]; rfl
theorem hMk_F {h : SH} {t l e : Int32} (hx : ¬ hTh h < 400) : hMk h t l e = (-1, h) := by
  unfold hMk; rw [decide_eq_false hx]; rfl
theorem uRoom_1 {h : SH} (hI : hOK h) : uRoom h 1 0 = decide (hTh h < 400) := by
  unfold uRoom
  have e2 : ¬ (4000 : Int64) < (hEl h).toInt64 + 0 := by
    rw [Int64.add_zero, Int64.lt_iff_toInt_lt, i64_of]
    have := hI.2.2.2.1
    show ¬ (4000 : Int) < (hEl h).toInt
    omega
  have e1 : (400 : Int64) < (hTh h).toInt64 + 1 ↔ ¬ hTh h < 400 := by
    have h1 := hI.1
    have h2 := hI.2.1
    have e3 : ((hTh h).toInt64 + 1).toInt = (hTh h).toInt + 1 := by
      have := i64_add (a := hTh h) (b := 1)
      exact this
    rw [Int64.lt_iff_toInt_lt, e3, Int32.lt_iff_toInt_lt]
    show (400 : Int) < _ ↔ ¬ _ < (400 : Int)
    omega
  rw [decide_eq_false e2]
  by_cases h4 : hTh h < 400
  · rw [decide_eq_true h4, decide_eq_false (fun z => e1.mp z h4)]
    rfl
  · rw [decide_eq_false h4, decide_eq_true (e1.mpr h4)]
    rfl
section SIME
variable {P : SP} {G : Int → UInt64 → Prop} {E : Int32 → SS → SO} {d : Nat} {n0 : Int32} {Q : xQ} {k : Nat} {m0 : MS} {n : Int32}
set_option maxRecDepth 100000 in
set_option maxHeartbeats 1000000 in
theorem sim_8 {κ : Int} {S : SS} {m : MS} (nc : NC P G E d n0 Q k m0 n) (hI : Inv G κ S) (hF : rF S.2.2 = 0) (t : TOP k m0 n 0 (vH S.2.1) S m) (hc : pC P (ix n) = 8) (hK : KO P d n0 Q k m0 (oMade ((hMk S.1 (pa P (ix n)) (-1) 0).2, S.2) n (hMk S.1 (pa P (ix n)) (-1) 0).1)) : Lp P d n0 Q S m := by
  have hn := nc.nin
  obtain ⟨e1, e2⟩ := t.d1 nc.k90
  have hn25 : ∀ s : Int32, pC P (ix n) = 25 → s ≠ 1 := fun s z => absurd (hc.symm.trans z) (by decide)
  have hh := hI.1.1
  refine lp_step8 nc t hF hc (fun Q' hQ => ?_)
  refine Cd.mk cdX8_stepNew 2 4 1 [(0, .ref 0), (1, .int n)] rfl rfl rfl rfl 100 ?_
  refine m_hasRoom (by decide) _ _ ?_
  rw [uRoom_1 hh]
  refine And.intro (fun z => ?_) (fun z => ?_)
  · rw [bI_ne0] at z
    have z : hTh S.1 < 400 := of_decide_eq_true z
    rw [hMk_T z] at hK
    have hne : ¬ hTh S.1 = -1 := fun y => by
      have := hh.1
      rw [y] at this
      exact absurd this (by decide)
    unfold oMade at hK
    simp only [decide_eq_false hne, cond_false] at hK
    refine And.intro hn ?_
    refine m_make (by decide) _ _ (vp_in_iff.mpr ⟨hh.1, i_lt z⟩) hh.2.2.1 (Or.inl rfl) ?_
    refine m_give (S := (uMk S.1 (pa P (ix n)) (-1), S.2)) (by decide) _ _ (Or.inr rfl) e2 ?_
    refine hQ _ _ ?_
    exact lp_give (S := (uMk S.1 (pa P (ix n)) (-1), S.2)) (kk := 2) nc (by exact t) rfl rfl hK
  · rw [bI_eq0] at z
    have z : ¬ hTh S.1 < 400 := of_decide_eq_false z
    rw [hMk_F z] at hK
    unfold oMade at hK
    refine m_fail (by decide) _ _ ?_
    exact hQ _ _ (lp_fail nc t rfl (fun z => hn25 _ z) (by decide) hK)
theorem lp_stepC {s b : Int32} {S : SS} {m : MS} (nc : NC P G E d n0 Q k m0 n) (t : TOP k m0 n s b S m) (hF : rF S.2.2 = 0) (hc : pC P (ix n) = 18 ∨ pC P (ix n) = 19) (h : ∀ Q' : xQ, (∀ S' m', Lp P d n0 Q S' m' → Q' none (wM P S' m')) → Cd 15 140 [.ref 0, .int n, .int s] (wM P S m) Q') : Lp P d n0 Q S m := by
  rcases hc with hc | hc
  · exact lp_step18 nc t hF hc h
  · exact lp_step19 nc t hF hc h
/-- what a value refers to -/
theorem vOK_two {S : SS} (hI : hInv S.1) {tt : Nat} (ht : (tt : Int) < (hTh S.1).toInt) {ty : Int32} (h2 : rK S.2.2 = 2) (ha : rA S.2.2 = lN tt) : vp_in (rA S.2.2).toInt32 400 ∧ tIsType (hTy S.1 (ix (rA S.2.2).toInt32)) = true ∧ sIsOf S ty = tSub (hTy S.1 (ix (rA S.2.2).toInt32)) ty := by
  obtain ⟨f1, f2, f3, f4, f5⟩ := thing_facts hI ht
  have e : (rA S.2.2).toInt32 = nI tt := by rw [ha]; exact f1
  unfold sIsOf hTypeOf
  rw [e, f2, f4, decide_eq_true h2]
  exact ⟨f3, f5, rfl⟩
theorem sIsOf_1 {S : SS} {ty : Int32} (h1 : rK S.2.2 = 1) : sIsOf S ty = false := by
  unfold sIsOf
  rw [dne h1 (by decide)]
  rfl
set_option maxRecDepth 100000 in
set_option maxHeartbeats 1000000 in
theorem sim_19_end {S : SS} {m : MS} {b : Int32} (nc : NC P G E d n0 Q k m0 n) (hh : hInv S.1) (hF : rF S.2.2 = 0) (t : TOP k m0 n 1 b S m) (hb : vH S.2.1 = b) (hR : RES S m) (hV : vOK S.1 (rK S.2.2) (rA S.2.2)) (hty : tIsType (pa P (ix n)) = true) (hc : pC P (ix n) = 19) (hK : KO P d n0 Q k m0 (oAnd (oRef S n) (fun S => (true, sGive S 0 (bL (sIsOf S (pa P (ix n)))))))) : Lp P d n0 Q S m := by
  have hn := nc.nin
  obtain ⟨e1, e2⟩ := t.d1 nc.k90
  have hn25 : ∀ s : Int32, pC P (ix n) = 25 → s ≠ 1 := fun s z => absurd (hc.symm.trans z) (by decide)
  have hg : ∀ v : Int64, KO P d n0 Q k m0 (true, sGive S 0 v) → Lp P d n0 Q (mGive S m 0 v).1 (mGive S m 0 v).2 := fun v hK => lp_give nc t hb rfl hK
  refine lp_stepC nc t hF (Or.inr hc) (fun Q' hQ => ?_)
  refine Cd.mk cdX8_stepCast 4 4 2 [(0, .ref 0), (1, .int n), (2, .int 1)] rfl rfl rfl rfl 100 ?_
  refine And.intro hn ?_
  refine And.intro (fun _ => ?_) (fun z => absurd z (by decide))
  refine And.intro hn ?_
  refine And.intro (fun z => absurd hc z) (fun _ => ?_)
  by_cases hz : rK S.2.2 = 0
  · have hr := hR.ref0 hz
    refine And.intro (fun z => absurd hr z) (fun _ => ?_)
    simp only [oRef, decide_eq_true hz, cond_true] at hK
    refine m_fail (by decide) _ _ ?_
    exact hQ _ _ (lp_fail nc t hb (fun z => hn25 _ z) (by decide) hK)
  · have hr := hR.ref1 hz
    refine And.intro (fun _ => ?_) (fun z => absurd (hr.symm.trans z) ne10)
    simp only [oRef, decide_eq_false hz, cond_false] at hK
    have hK : KO P d n0 Q k m0 (true, sGive S 0 (bL (sIsOf S (pa P (ix n))))) := hK
    rcases vOK_ref hV hz with x | x
    · rw [sIsOf_1 x.1] at hK
      have hneg : mCame m < 0 := by rw [hR.2]; exact x.2.2
      refine And.intro (fun _ => ?_) (fun z => absurd (by rw [lc_lt]; exact hneg) z)
      refine m_number (by decide) _ e2 ?_
      exact hQ _ _ (hg _ hK)
    · have hneg : ¬ mCame m < 0 := by rw [hR.2]; exact x.2.1
      obtain ⟨tt, ht, ha⟩ := x.2.2
      obtain ⟨f1, f2, f3⟩ := vOK_two (ty := pa P (ix n)) hh ht x.1 ha
      rw [f3] at hK
      rw [← hR.2] at f1 f2 hK
      refine And.intro (fun z => absurd (by rw [lc_lt] at z; exact z) hneg) (fun _ => ?_)
      refine And.intro f1 ?_
      refine m_isSub (by decide) _ _ (tIsType_rng f2) (tIsType_rng hty) ?_
      refine And.intro (fun z => ?_) (fun z => ?_)
      · rw [bI_eq0] at z
        rw [z] at hK
        refine m_number (by decide) _ e2 ?_
        exact hQ _ _ (hg _ hK)
      · rw [bI_ne0] at z
        rw [z] at hK
        refine m_number (by decide) _ e2 ?_
        exact hQ _ _ (hg _ hK)
theorem tIsNum_rng {t : Int32} (h : tIsNum t = true) : 0 ≤ t.toInt ∧ t.toInt ≤ 7 := by
  unfold tIsNum at h
  simp only [Bool.and_eq_true, Bool.not_eq_true', decide_eq_false_iff_not] at h
  have h1 := i_not_lt h.1
  have h2 := i_not_lt h.2
  have e1 : (0 : Int32).toInt = 0 := rfl
  have e2 : (7 : Int32).toInt = 7 := rfl
  omega
set_option maxRecDepth 100000 in
set_option maxHeartbeats 1000000 in
theorem sim_18_end {S : SS} {m : MS} {b : Int32} (nc : NC P G E d n0 Q k m0 n) (hh : hInv S.1) (hF : rF S.2.2 = 0) (t : TOP k m0 n 1 b S m) (hb : vH S.2.1 = b) (hR : RES S m) (hV : vOK S.1 (rK S.2.2) (rA S.2.2)) (hty : tIsType (pa P (ix n)) = true) (hc : pC P (ix n) = 18) (hK : KO P d n0 Q k m0 (oCast P S n)) : Lp P d n0 Q S m := by
  have hn := nc.nin
  obtain ⟨e1, e2⟩ := t.d1 nc.k90
  have hn25 : ∀ s : Int32, pC P (ix n) = 25 → s ≠ 1 := fun s z => absurd (hc.symm.trans z) (by decide)
  have hg : ∀ v : Int64, KO P d n0 Q k m0 (true, sGive S 0 v) → Lp P d n0 Q (mGive S m 0 v).1 (mGive S m 0 v).2 := fun v hK => lp_give nc t hb rfl hK
  have hfl : ∀ c : Int32, 0 < c.toInt → KO P d n0 Q k m0 (false, sFail S c n) → Lp P d n0 Q (sFail S c n) m := fun c hc hK => lp_fail nc t hb (fun z => hn25 _ z) hc hK
  unfold oCast at hK
  refine lp_stepC nc t hF (Or.inl hc) (fun Q' hQ => ?_)
  refine Cd.mk cdX8_stepCast 4 4 2 [(0, .ref 0), (1, .int n), (2, .int 1)] rfl rfl rfl rfl 100 ?_
  refine And.intro hn ?_
  refine And.intro (fun _ => ?_) (fun z => absurd z (by decide))
  refine And.intro hn ?_
  refine And.intro (fun _ => ?_) (fun z => absurd (hc.symm.trans z) (by decide))
  refine m_isNumbers (by decide) _ ?_
  rw [tIsNum_8 hty]
  refine And.intro (fun z => ?_) (fun z => ?_)
  · have z : ¬ mRef m = bI (tIsNum (pa P (ix n))) := z
    rw [hR.1, bI_inj] at z
    have hkk : (tIsNum (pa P (ix n)) != decide (rK S.2.2 = 0)) = false := by
      cases ha : tIsNum (pa P (ix n)) <;> cases hb : decide (rK S.2.2 = 0) <;> rw [ha, hb] at z <;> first | rfl | exact absurd rfl z
    rw [hkk, cond_false] at hK
    by_cases hz : rK S.2.2 = 0
    · have hr := hR.ref0 hz
      refine And.intro (fun z => absurd hr z) (fun _ => ?_)
      rw [decide_eq_true hz, cond_true, ← hR.2] at hK
      rw [decide_eq_true hz] at hkk
      have hnum : tIsNum (pa P (ix n)) = true := by
        cases ha : tIsNum (pa P (ix n))
        · rw [ha] at hkk; cases hkk
        · rfl
      refine m_cut (by decide) nc.f1 nc.fc _ _ (tIsNum_rng hnum) ?_
      refine m_number (by decide) _ e2 ?_
      exact hQ _ _ (hg _ hK)
    · have hr := hR.ref1 hz
      refine And.intro (fun _ => ?_) (fun z => absurd (hr.symm.trans z) ne10)
      rw [decide_eq_false hz, cond_false] at hK
      have hsame : KO P d n0 Q k m0 (true, S) → Lp P d n0 Q (mGive S m 1 (mCame m)).1 (mGive S m 1 (mCame m)).2 := by
        intro hK
        have := lp_same nc t hb hR hK
        rw [hr] at this
        exact this
      rcases vOK_ref hV hz with x | x
      · rw [decide_eq_true x.1, Bool.true_or, cond_true] at hK
        have hneg : mCame m < 0 := by rw [hR.2]; exact x.2.2
        refine And.intro (fun _ => ?_) (fun z => absurd (by rw [lc_lt]; exact hneg) z)
        refine m_give (by decide) _ _ (Or.inr rfl) e2 ?_
        exact hQ _ _ (hsame hK)
      · have hneg : ¬ mCame m < 0 := by rw [hR.2]; exact x.2.1
        obtain ⟨tt, ht, ha⟩ := x.2.2
        obtain ⟨f1, f2, f3⟩ := vOK_two (ty := pa P (ix n)) hh ht x.1 ha
        rw [dne x.1 (by decide), Bool.false_or, f3] at hK
        rw [← hR.2] at f1 f2 hK
        refine And.intro (fun z => absurd (by rw [lc_lt] at z; exact z) hneg) (fun _ => ?_)
        refine And.intro f1 ?_
        refine m_isSub (by decide) _ _ (tIsType_rng f2) (tIsType_rng hty) ?_
        refine And.intro (fun z => ?_) (fun z => ?_)
        · rw [bI_ne0] at z
          rw [z, cond_true] at hK
          refine m_give (by decide) _ _ (Or.inr rfl) e2 ?_
          exact hQ _ _ (hsame hK)
        · rw [bI_eq0] at z
          rw [z, cond_false] at hK
          refine m_fail (by decide) _ _ ?_
          exact hQ _ _ (hfl 5 (by decide) hK)
  · have z : mRef m = bI (tIsNum (pa P (ix n))) := z
    rw [hR.1, bI_inj] at z
    have hkk : (tIsNum (pa P (ix n)) != decide (rK S.2.2 = 0)) = true := by
      cases ha : tIsNum (pa P (ix n)) <;> cases hb : decide (rK S.2.2 = 0) <;> rw [ha, hb] at z <;> first | rfl | cases z
    rw [hkk, cond_true] at hK
    refine m_fail (by decide) _ _ ?_
    exact hQ _ _ (hfl 9 (by decide) hK)
set_option maxRecDepth 100000 in
set_option maxHeartbeats 1000000 in
theorem sim_cast {κ : Int} {S : SS} {m : MS} (nc : NC P G E d n0 Q k m0 n) (hI : Inv G κ S) (hF : rF S.2.2 = 0) (hH : (vH S.2.1).toInt ≤ HB P n) (t : TOP k m0 n 0 (vH S.2.1) S m) (hc : pC P (ix n) = 18 ∨ pC P (ix n) = 19) (hty : tIsType (pa P (ix n)) = true) (hk1 : pIsNode P (pb P (ix n)) = true ∧ (pb P (ix n)).toInt < n.toInt) (f : SS → SO) (hK : KO P d n0 Q k m0 (oAnd (E (pb P (ix n)) S) f)) (hend : ∀ S1 m1, hInv S1.1 → rF S1.2.2 = 0 → TOP k m0 n 1 (vH S.2.1) S1 m1 → vH S1.2.1 = vH S.2.1 → RES S1 m1 → vOK S1.1 (rK S1.2.2) (rA S1.2.2) → KO P d n0 Q k m0 (f S1) → Lp P d n0 Q S1 m1) : Lp P d n0 Q S m := by
  have hn := nc.nin
  have hn25 : ∀ s : Int32, pC P (ix n) = 25 → s ≠ 1 := fun s z => by rcases hc with hc | hc <;> exact absurd (hc.symm.trans z) (by decide)
  refine lp_stepC nc t hF hc (fun Q' hQ => ?_)
  refine Cd.mk cdX8_stepCast 4 4 2 [(0, .ref 0), (1, .int n), (2, .int 0)] rfl rfl rfl rfl 100 ?_
  refine And.intro hn ?_
  refine And.intro (fun z => absurd rfl z) (fun _ => ?_)
  refine And.intro hn ?_
  refine m_next (by decide) _ (pIsNode_in nc.wf.1 hk1.1) (t.deepin nc.k90) (t.d1 nc.k90).2 ?_
  refine hQ _ _ ?_
  refine lp_next nc t hI hF hk1.1 hk1.2 (HB_kid hk1.2 hH) rfl (fun z => hn25 _ z) hK ?_
  intro hx hK hI hF hV hvh m t hkp hR
  exact hend _ _ hI.1 hF t hvh hR hV hK
theorem sim_18 {κ : Int} {S : SS} {m : MS} (nc : NC P G E d n0 Q k m0 n) (hI : Inv G κ S) (hF : rF S.2.2 = 0) (hH : (vH S.2.1).toInt ≤ HB P n) (t : TOP k m0 n 0 (vH S.2.1) S m) (hc : pC P (ix n) = 18) (hK : KO P d n0 Q k m0 (oAnd (E (pb P (ix n)) S) (fun S => oCast P S n))) : Lp P d n0 Q S m := by
  have hfit := pFit nc.wf nc.nd
  rw [hc] at hfit
  have hfit2 := Bool.and_eq_true_iff.mp (show (tIsType (pa P (ix n)) && pIsNode (pPre P (ix n)) (pb P (ix n))) = true from hfit)
  exact sim_cast nc hI hF hH t (Or.inl hc) hfit2.1 (pKid nc.nd hfit2.2) _ hK (fun S1 m1 h1 h2 h3 h4 h5 h6 h7 => sim_18_end nc h1 h2 h3 h4 h5 h6 hfit2.1 hc h7)
theorem sim_19 {κ : Int} {S : SS} {m : MS} (nc : NC P G E d n0 Q k m0 n) (hI : Inv G κ S) (hF : rF S.2.2 = 0) (hH : (vH S.2.1).toInt ≤ HB P n) (t : TOP k m0 n 0 (vH S.2.1) S m) (hc : pC P (ix n) = 19) (hK : KO P d n0 Q k m0 (oAnd (E (pb P (ix n)) S) (fun S => oAnd (oRef S n) (fun S => (true, sGive S 0 (bL (sIsOf S (pa P (ix n))))))))) : Lp P d n0 Q S m := by
  have hfit := pFit nc.wf nc.nd
  rw [hc] at hfit
  have hfit2 := Bool.and_eq_true_iff.mp (show (tIsType (pa P (ix n)) && (!tIsNum (pa P (ix n)) && pIsNode (pPre P (ix n)) (pb P (ix n)))) = true from hfit)
  have hfit3 := Bool.and_eq_true_iff.mp hfit2.2
  exact sim_cast nc hI hF hH t (Or.inr hc) hfit2.1 (pKid nc.nd hfit3.2) _ hK (fun S1 m1 h1 h2 h3 h4 h5 h6 h7 => sim_19_end nc h1 h2 h3 h4 h5 h6 hfit2.1 hc h7)
end SIME
