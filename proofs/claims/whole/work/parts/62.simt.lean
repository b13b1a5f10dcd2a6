/-! MOVE, stage by stage -/
def mSetT (m : MS) (i : Nat) (v : Int64) : MS := (m.1, (mDeep m, mAt m, mStage m, mIndex m, mFRef m, mFirst m, mSecond m, x_up (mThird m) i v, m.2.1.2.2.2.2.2.2.2.2), m.2.2)
def mSetFo (m : MS) (i : Nat) (v : Int64) : MS := (m.1, (mDeep m, mAt m, mStage m, mIndex m, mFRef m, mFirst m, mSecond m, mThird m, x_up (mFourth m) i v, m.2.1.2.2.2.2.2.2.2.2.2), m.2.2)
theorem TOP.setT {k : Nat} {m0 : MS} {n s b : Int32} {S : SS} {m : MS} (t : TOP k m0 n s b S m) (x : Int64) : TOP k m0 n s b S (mSetT m k x) := by
  refine ⟨t.1, t.2.1, ?_, t.2.2.2⟩
  intro j hj
  rw [← t.2.2.1 j hj]
  unfold mRow mSetT
  simp only [mStage, mAt, mIndex, mFRef, mFirst, mSecond, mThird, mFourth, mReal, mBase]
  rw [x_up_ne _ _ (by omega)]
theorem TOP.setFo {k : Nat} {m0 : MS} {n s b : Int32} {S : SS} {m : MS} (t : TOP k m0 n s b S m) (x : Int64) : TOP k m0 n s b S (mSetFo m k x) := by
  refine ⟨t.1, t.2.1, ?_, t.2.2.2⟩
  intro j hj
  rw [← t.2.2.1 j hj]
  unfold mRow mSetFo
  simp only [mStage, mAt, mIndex, mFRef, mFirst, mSecond, mThird, mFourth, mReal, mBase]
  rw [x_up_ne _ _ (by omega)]
section SIMT
variable {P : SP} {G : Int → UInt64 → Prop} {E : Int32 → SS → SO} {d : Nat} {n0 : Int32} {Q : xQ} {k : Nat} {m0 : MS} {n : Int32}
set_option maxRecDepth 100000 in
set_option maxHeartbeats 1000000 in
theorem mv_num {S : SS} {m : MS} {b s : Int32} {f : SS → SO} (nc : NC P G E d n0 Q k m0 n) (hF : rF S.2.2 = 0) (t : TOP k m0 n s b S m) (hb : vH S.2.1 = b) (hR : RES S m) (hs : s = 2 ∨ s = 4 ∨ s = 5) (hc : pC P (ix n) = 26) (hK : KO P d n0 Q k m0 (oAnd (oNum S n) f)) (h : KO P d n0 Q k m0 (f S) → ∀ Q' : xQ, (∀ S' m', Lp P d n0 Q S' m' → Q' none (wM P S' m')) → Ev (Cd 14) cdX8_stepMove Q' 53 [(0, .ref 0), (1, .int n), (2, .int s), (3, .int (mDeep m - 1)), (4, .int 1)] [] (wM P S m)) : Lp P d n0 Q S m := by
  have hn25 : ∀ s : Int32, pC P (ix n) = 25 → s ≠ 1 := fun s z => absurd (hc.symm.trans z) (by decide)
  refine lp_step26 nc t hF hc (fun Q' hQ => ?_)
  refine Cd.mk cdX8_stepMove 5 4 2 [(0, .ref 0), (1, .int n), (2, .int s)] rfl rfl rfl rfl 0 ?_
  refine Ev.go (Cd.mono 14) [53] 100 ?_
  refine And.intro (fun z => absurd (show s = 0 from z) (by rcases hs with rfl | rfl | rfl <;> decide)) (fun _ => ?_)
  refine And.intro (fun z => absurd (show s = 1 from z) (by rcases hs with rfl | rfl | rfl <;> decide)) (fun _ => ?_)
  refine And.intro (fun _ => ?_) (fun z => absurd (show s = 3 from z) (by rcases hs with rfl | rfl | rfl <;> decide))
  by_cases hz : rK S.2.2 = 0
  · refine m_wnumT (by decide) n hR hz ?_
    refine And.intro (fun z => absurd z ne10) (fun _ => ?_)
    refine And.intro (fun _ => ?_) (fun z => absurd z ne10)
    rw [oNum_T hz] at hK
    exact h hK Q' hQ
  · refine m_wnumF (by decide) n hR hz ?_
    refine And.intro (fun _ => ?_) (fun z => absurd rfl z)
    refine And.intro (fun z => absurd rfl z) (fun _ => ?_)
    rw [oNum_F hz] at hK
    exact hQ _ _ (lp_fail nc t hb (fun z => hn25 _ z) (by decide) hK)
set_option maxRecDepth 100000 in
set_option maxHeartbeats 1000000 in
theorem mv_arr {S : SS} {m : MS} {b s : Int32} {f : SS → SO} (nc : NC P G E d n0 Q k m0 n) (hI : hInv S.1) (hF : rF S.2.2 = 0) (t : TOP k m0 n s b S m) (hb : vH S.2.1 = b) (hR : RES S m) (hV : vOK S.1 (rK S.2.2) (rA S.2.2)) (hs : s = 1 ∨ s = 3) (hc : pC P (ix n) = 26) (hK : KO P d n0 Q k m0 (oAnd (oArr S n) f)) (h : aOK S.1 (rA S.2.2) → KO P d n0 Q k m0 (f S) → ∀ Q' : xQ, (∀ S' m', Lp P d n0 Q S' m' → Q' none (wM P S' m')) → Ev (Cd 14) cdX8_stepMove Q' 53 [(0, .ref 0), (1, .int n), (2, .int s), (3, .int (mDeep m - 1)), (4, .int 1)] [] (wM P S m)) : Lp P d n0 Q S m := by
  have hn25 : ∀ s : Int32, pC P (ix n) = 25 → s ≠ 1 := fun s z => absurd (hc.symm.trans z) (by decide)
  refine lp_step26 nc t hF hc (fun Q' hQ => ?_)
  refine Cd.mk cdX8_stepMove 5 4 2 [(0, .ref 0), (1, .int n), (2, .int s)] rfl rfl rfl rfl 0 ?_
  refine Ev.go (Cd.mono 14) [21, 53] 100 ?_
  refine And.intro (fun z => absurd (show s = 0 from z) (by rcases hs with rfl | rfl <;> decide)) (fun _ => ?_)
  have h21 : Ev (Cd 14) cdX8_stepMove Q' 21 [(0, .ref 0), (1, .int n), (2, .int s), (3, .int (mDeep m - 1))] [] (wM P S m) := by
    refine Ev.go (Cd.mono 14) [53] 100 ?_
    refine m_warr (by decide) n hI hR hV ?_ ?_
    · intro hT
      refine And.intro (fun z => absurd z ne10) (fun _ => ?_)
      refine And.intro (fun _ => ?_) (fun z => absurd z ne10)
      have ha := oArr_aOK hV hI hT
      rw [oArr_Te hT] at hK
      exact h ha hK Q' hQ
    · intro hT
      refine And.intro (fun _ => ?_) (fun z => absurd rfl z)
      refine And.intro (fun z => absurd rfl z) (fun _ => ?_)
      rw [oArr_F hT] at hK
      exact hQ _ _ (lp_fail nc t hb (fun z => hn25 _ z) (by decide) hK)
  refine And.intro (fun _ => ?_) (fun z1 => ?_)
  · exact h21
  · have hs3 : s = 3 := hs.resolve_left z1
    refine And.intro (fun z => absurd hs3 z) (fun _ => ?_)
    exact h21
set_option maxRecDepth 100000 in
set_option maxHeartbeats 1000000 in
theorem sim_mv5 {κ : Int} {S : SS} {m : MS} {b s p : Int32} {x z : Int64} (nc : NC P G E d n0 Q k m0 n) (hI : Inv G κ S) (hF : rF S.2.2 = 0) (t : TOP k m0 n 5 b S m) (hb : vH S.2.1 = b) (hR : RES S m) (hc : pC P (ix n) = 26) (hx : aOK S.1 x) (hz : aOK S.1 z) (e1 : mFirst m k = x) (e2 : mSecond m k = s.toInt64) (e3 : mThird m k = z) (e4 : mFourth m k = p.toInt64) (hK : KO P d n0 Q k m0 (oAnd (oNum S n) (fun S5 => oMove n x.toInt32 s z.toInt32 p (rA S5.2.2).toInt32 S5))) : Lp P d n0 Q S m := by
  have hn25 : ∀ s : Int32, pC P (ix n) = 25 → s ≠ 1 := fun s z => absurd (hc.symm.trans z) (by decide)
  obtain ⟨d1, d2⟩ := t.d1 nc.k90
  refine mv_num nc hF t hb hR (Or.inr (Or.inr rfl)) hc hK ?_
  intro hK Q' hQ
  have hK : KO P d n0 Q k m0 (oMove n x.toInt32 s z.toInt32 p (mCame m).toInt32 S) := by rw [hR.2]; exact hK
  refine Ev.go (Cd.mono 14) [] 100 ?_
  refine And.intro (fun z => absurd z (by decide)) (fun _ => ?_)
  refine And.intro (fun z => absurd z (by decide)) (fun _ => ?_)
  refine And.intro (fun z => absurd z (by decide)) (fun _ => ?_)
  refine And.intro (fun z => absurd z (by decide)) (fun _ => ?_)
  refine And.intro (fun z => absurd z (by decide)) (fun _ => ?_)
  refine And.intro d2 ?_
  refine And.intro d2 ?_
  refine And.intro d2 ?_
  refine And.intro d2 ?_
  rw [show (mDeep m - 1).toNatClampNeg = k from d1, e1, e2, e3, e4]
  refine m_move (by decide) n x z s p (mCame m).toInt32 hI.1 hx hz d2 ?_ ?_
  · intro h' mv mr ho
    rw [ho] at hK
    exact hQ _ _ (lp_give (S := (h', S.2)) (m := mMv m mv mr) (kk := 0) nc (by exact t) hb rfl hK)
  · intro c h' mv mr hc0 ho
    rw [ho] at hK
    exact hQ _ _ (lp_fail (S := (h', S.2)) (m := mMv m mv mr) nc (by exact t) hb (fun z => hn25 _ z) hc0 hK)
set_option maxRecDepth 100000 in
set_option maxHeartbeats 1000000 in
theorem sim_mv4 {κ : Int} {S : SS} {m : MS} {b s : Int32} {x z : Int64} (nc : NC P G E d n0 Q k m0 n) (hI : Inv G κ S) (hF : rF S.2.2 = 0) (hH : b.toInt ≤ HB P n) (t : TOP k m0 n 4 b S m) (hb : vH S.2.1 = b) (hR : RES S m) (hc : pC P (ix n) = 26) (hl : pIsList P (pd P (ix n)) = true ∧ (pd P (ix n)).toInt < n.toInt ∧ (pLen P (pd P (ix n))).toInt = 2) (hx : aOK S.1 x) (hz : aOK S.1 z) (e1 : mFirst m k = x) (e2 : mSecond m k = s.toInt64) (e3 : mThird m k = z) (hK : KO P d n0 Q k m0 (oAnd (oNum S n) (fun S4 => oAnd (E (pNth P (pd P (ix n)) 1) S4) (fun S => oAnd (oNum S n) (fun S5 => oMove n x.toInt32 s z.toInt32 (rA S4.2.2).toInt32 (rA S5.2.2).toInt32 S5))))) : Lp P d n0 Q S m := by
  have hn := nc.nin
  have hn25 : ∀ s : Int32, pC P (ix n) = 25 → s ≠ 1 := fun s z => absurd (hc.symm.trans z) (by decide)
  obtain ⟨d1, d2⟩ := t.d1 nc.k90
  have one : (1 : Int32).toInt = 1 := rfl
  obtain ⟨c1, c2⟩ := pNth_node nc.wf hl.1 (i := 1) (by decide) (by rw [hl.2.2]; decide)
  have c3 : (pNth P (pd P (ix n)) 1).toInt < n.toInt := by have := hl.2.1; omega
  refine mv_num nc hF t hb hR (Or.inr (Or.inl rfl)) hc hK ?_
  intro hK Q' hQ
  refine Ev.go (Cd.mono 14) [] 100 ?_
  refine And.intro (fun z => absurd z (by decide)) (fun _ => ?_)
  refine And.intro (fun z => absurd z (by decide)) (fun _ => ?_)
  refine And.intro (fun z => absurd z (by decide)) (fun _ => ?_)
  refine And.intro (fun z => absurd z (by decide)) (fun _ => ?_)
  refine And.intro (fun _ => ?_) (fun z => absurd rfl z)
  refine And.intro d2 ?_
  refine And.intro hn ?_
  refine m_nodeOf (S := S) (m := mSetFo m (ix (mDeep m - 1)) (mCame m).toInt32.toInt64) (by decide) nc.wf _ _ hl.1 (by decide) (by rw [hl.2.2]; decide) ?_
  refine m_next (S := S) (m := mSetFo m (ix (mDeep m - 1)) (mCame m).toInt32.toInt64) (by decide) _ (pIsNode_in nc.wf.1 c1) (t.deepin nc.k90) d2 ?_
  refine hQ _ _ ?_
  rw [d1]
  have ex0 := nc.ex _ c1 c3 κ S hI hF
  refine lp_next nc (t.setFo _) hI hF c1 c3 (HB_kid c3 (by rw [hb]; exact hH)) hb (fun z => hn25 _ z) hK ?_
  intro hx1 hK1 hI1 hF1 hV1 hvh1 m1 t1 hkp1 hR1
  obtain ⟨i1, i2, i3, i4, i5, i6⟩ := ex0
  have e4 : mFourth (mSetFo m k (mCame m).toInt32.toInt64) k = (rA S.2.2).toInt32.toInt64 := by
    show x_up (mFourth m) k (mCame m).toInt32.toInt64 k = _
    rw [x_up_self, hR.2]
  generalize (E (pNth P (pd P (ix n)) 1) S).2 = S1 at *
  exact sim_mv5 nc hI1 hF1 (by exact t1) hvh1 hR1 hc (aOK_keep i5 hx) (aOK_keep i5 hz) (hkp1.2.2.1.trans e1) (hkp1.2.2.2.1.trans e2) (hkp1.2.2.2.2.1.trans e3) (hkp1.2.2.2.2.2.1.trans e4) hK1
set_option maxRecDepth 100000 in
set_option maxHeartbeats 1000000 in
theorem sim_mv3 {κ : Int} {S : SS} {m : MS} {b s : Int32} {x : Int64} (nc : NC P G E d n0 Q k m0 n) (hI : Inv G κ S) (hF : rF S.2.2 = 0) (hH : b.toInt ≤ HB P n) (t : TOP k m0 n 3 b S m) (hb : vH S.2.1 = b) (hR : RES S m) (hV : vOK S.1 (rK S.2.2) (rA S.2.2)) (hc : pC P (ix n) = 26) (hl : pIsList P (pd P (ix n)) = true ∧ (pd P (ix n)).toInt < n.toInt ∧ (pLen P (pd P (ix n))).toInt = 2) (hx : aOK S.1 x) (e1 : mFirst m k = x) (e2 : mSecond m k = s.toInt64) (hK : KO P d n0 Q k m0 (oAnd (oArr S n) (fun S3 => oAnd (E (pNth P (pd P (ix n)) 0) S3) (fun S => oAnd (oNum S n) (fun S4 => oAnd (E (pNth P (pd P (ix n)) 1) S4) (fun S => oAnd (oNum S n) (fun S5 => oMove n x.toInt32 s (rA S3.2.2).toInt32 (rA S4.2.2).toInt32 (rA S5.2.2).toInt32 S5))))))) : Lp P d n0 Q S m := by
  have hn := nc.nin
  have hn25 : ∀ s : Int32, pC P (ix n) = 25 → s ≠ 1 := fun s z => absurd (hc.symm.trans z) (by decide)
  obtain ⟨d1, d2⟩ := t.d1 nc.k90
  obtain ⟨c1, c2⟩ := pNth_node nc.wf hl.1 (i := 0) (by decide) (by rw [hl.2.2]; decide)
  have c3 : (pNth P (pd P (ix n)) 0).toInt < n.toInt := by have := hl.2.1; omega
  refine mv_arr nc hI.1 hF t hb hR hV (Or.inr rfl) hc hK ?_
  intro hz hK Q' hQ
  refine Ev.go (Cd.mono 14) [] 100 ?_
  refine And.intro (fun z => absurd z (by decide)) (fun _ => ?_)
  refine And.intro (fun z => absurd z (by decide)) (fun _ => ?_)
  refine And.intro (fun z => absurd z (by decide)) (fun _ => ?_)
  refine And.intro (fun _ => ?_) (fun z => absurd rfl z)
  refine And.intro d2 ?_
  refine And.intro hn ?_
  refine m_nodeOf (S := S) (m := mSetT m (ix (mDeep m - 1)) (mCame m)) (by decide) nc.wf _ _ hl.1 (by decide) (by rw [hl.2.2]; decide) ?_
  refine m_next (S := S) (m := mSetT m (ix (mDeep m - 1)) (mCame m)) (by decide) _ (pIsNode_in nc.wf.1 c1) (t.deepin nc.k90) d2 ?_
  refine hQ _ _ ?_
  rw [d1]
  have ex0 := nc.ex _ c1 c3 κ S hI hF
  refine lp_next nc (t.setT _) hI hF c1 c3 (HB_kid c3 (by rw [hb]; exact hH)) hb (fun z => hn25 _ z) hK ?_
  intro hx1 hK1 hI1 hF1 hV1 hvh1 m1 t1 hkp1 hR1
  obtain ⟨i1, i2, i3, i4, i5, i6⟩ := ex0
  have e3 : mThird (mSetT m k (mCame m)) k = rA S.2.2 := by
    show x_up (mThird m) k (mCame m) k = _
    rw [x_up_self, hR.2]
  generalize (E (pNth P (pd P (ix n)) 0) S).2 = S1 at *
  exact sim_mv4 nc hI1 hF1 hH (by exact t1) hvh1 hR1 hc hl (aOK_keep i5 hx) (aOK_keep i5 hz) (hkp1.2.2.1.trans e1) (hkp1.2.2.2.1.trans e2) (hkp1.2.2.2.2.1.trans e3) hK1
set_option maxRecDepth 100000 in
set_option maxHeartbeats 1000000 in
theorem sim_mv2 {κ : Int} {S : SS} {m : MS} {b : Int32} {x : Int64} (nc : NC P G E d n0 Q k m0 n) (hI : Inv G κ S) (hF : rF S.2.2 = 0) (hH : b.toInt ≤ HB P n) (t : TOP k m0 n 2 b S m) (hb : vH S.2.1 = b) (hR : RES S m) (hc : pC P (ix n) = 26) (hkc : pIsNode P (pc' P (ix n)) = true ∧ (pc' P (ix n)).toInt < n.toInt) (hl : pIsList P (pd P (ix n)) = true ∧ (pd P (ix n)).toInt < n.toInt ∧ (pLen P (pd P (ix n))).toInt = 2) (hx : aOK S.1 x) (e1 : mFirst m k = x) (hK : KO P d n0 Q k m0 (oAnd (oNum S n) (fun S2 => oAnd (E (pc' P (ix n)) S2) (fun S => oAnd (oArr S n) (fun S3 => oAnd (E (pNth P (pd P (ix n)) 0) S3) (fun S => oAnd (oNum S n) (fun S4 => oAnd (E (pNth P (pd P (ix n)) 1) S4) (fun S => oAnd (oNum S n) (fun S5 => oMove n x.toInt32 (rA S2.2.2).toInt32 (rA S3.2.2).toInt32 (rA S4.2.2).toInt32 (rA S5.2.2).toInt32 S5))))))))) : Lp P d n0 Q S m := by
  have hn := nc.nin
  have hn25 : ∀ s : Int32, pC P (ix n) = 25 → s ≠ 1 := fun s z => absurd (hc.symm.trans z) (by decide)
  obtain ⟨d1, d2⟩ := t.d1 nc.k90
  refine mv_num nc hF t hb hR (Or.inl rfl) hc hK ?_
  intro hK Q' hQ
  refine Ev.go (Cd.mono 14) [] 100 ?_
  refine And.intro (fun z => absurd z (by decide)) (fun _ => ?_)
  refine And.intro (fun z => absurd z (by decide)) (fun _ => ?_)
  refine And.intro (fun _ => ?_) (fun z => absurd rfl z)
  refine And.intro d2 ?_
  refine And.intro hn ?_
  refine m_next (S := S) (m := mSetS m (ix (mDeep m - 1)) (mCame m).toInt32.toInt64) (by decide) _ (pIsNode_in nc.wf.1 hkc.1) (t.deepin nc.k90) d2 ?_
  refine hQ _ _ ?_
  rw [d1]
  have ex0 := nc.ex _ hkc.1 hkc.2 κ S hI hF
  refine lp_next nc (t.setS _) hI hF hkc.1 hkc.2 (HB_kid hkc.2 (by rw [hb]; exact hH)) hb (fun z => hn25 _ z) hK ?_
  intro hx1 hK1 hI1 hF1 hV1 hvh1 m1 t1 hkp1 hR1
  obtain ⟨i1, i2, i3, i4, i5, i6⟩ := ex0
  have e2 : mSecond (mSetS m k (mCame m).toInt32.toInt64) k = (rA S.2.2).toInt32.toInt64 := by
    show x_up (mSecond m) k (mCame m).toInt32.toInt64 k = _
    rw [x_up_self, hR.2]
  generalize (E (pc' P (ix n)) S).2 = S1 at *
  exact sim_mv3 nc hI1 hF1 hH (by exact t1) hvh1 hR1 hV1 hc hl (aOK_keep i5 hx) (hkp1.2.2.1.trans e1) (hkp1.2.2.2.1.trans e2) hK1
set_option maxRecDepth 100000 in
set_option maxHeartbeats 1000000 in
theorem sim_26 {κ : Int} {S : SS} {m : MS} (nc : NC P G E d n0 Q k m0 n) (hI : Inv G κ S) (hF : rF S.2.2 = 0) (hH : (vH S.2.1).toInt ≤ HB P n) (t : TOP k m0 n 0 (vH S.2.1) S m) (hc : pC P (ix n) = 26) (hK : KO P d n0 Q k m0 (eMove P E n S)) : Lp P d n0 Q S m := by
  have hfit := pFit nc.wf nc.nd
  rw [hc] at hfit
  obtain ⟨q1, q2⟩ := Bool.and_eq_true_iff.mp (show ((pIsNode (pPre P (ix n)) (pa P (ix n)) && (pIsNode (pPre P (ix n)) (pb P (ix n)) && pIsNode (pPre P (ix n)) (pc' P (ix n)))) && decide (pLen (pPre P (ix n)) (pd P (ix n)) = 2)) = true from hfit)
  obtain ⟨q3, q4⟩ := Bool.and_eq_true_iff.mp q1
  obtain ⟨q5, q6⟩ := Bool.and_eq_true_iff.mp q4
  have q2 := of_decide_eq_true q2
  have hk1 := pKid nc.nd q3
  have hk2 := pKid nc.nd q5
  have hk3 := pKid nc.nd q6
  have hl : pIsList P (pd P (ix n)) = true ∧ (pd P (ix n)).toInt < n.toInt ∧ (pLen P (pd P (ix n))).toInt = 2 := by
    cases hli : pIsList (pPre P (ix n)) (pd P (ix n))
    · unfold pLen at q2
      rw [hli] at q2
      exact absurd (show (0 : Int32) = 2 from q2) (by decide)
    · obtain ⟨l1, l2⟩ := Bool.and_eq_true_iff.mp (show (pIsNode (pPre P (ix n)) (pd P (ix n)) && decide (pC P (ix (pd P (ix n))) = 10)) = true from hli)
      have l3 := pKid nc.nd l1
      have l4 : pIsList P (pd P (ix n)) = true := by unfold pIsList; rw [l3.1, l2]; rfl
      refine ⟨l4, l3.2, ?_⟩
      unfold pLen at q2 ⊢
      rw [hli, cond_true] at q2
      rw [l4, cond_true]
      have q2 : pL P (ix (pd P (ix n))) = 2 := q2
      rw [q2]
      rfl
  have hn := nc.nin
  have hn25 : ∀ s : Int32, pC P (ix n) = 25 → s ≠ 1 := fun s z => absurd (hc.symm.trans z) (by decide)
  unfold eMove at hK
  refine lp_step26 nc t hF hc (fun Q' hQ => ?_)
  refine Cd.mk cdX8_stepMove 5 4 2 [(0, .ref 0), (1, .int n), (2, .int 0)] rfl rfl rfl rfl 0 ?_
  refine Ev.go (Cd.mono 14) [] 100 ?_
  refine And.intro (fun _ => ?_) (fun z => absurd rfl z)
  refine And.intro (fun _ => ?_) (fun z => absurd z ne10)
  refine And.intro (fun _ => ?_) (fun z => absurd rfl z)
  refine And.intro hn ?_
  refine m_next (by decide) _ (pIsNode_in nc.wf.1 hk1.1) (t.deepin nc.k90) (t.d1 nc.k90).2 ?_
  refine hQ _ _ ?_
  refine lp_next nc t hI hF hk1.1 hk1.2 (HB_kid hk1.2 hH) rfl (fun z => hn25 _ z) hK ?_
  intro hx hK hI hF hV hvh m t hkp hR
  generalize (E (pa P (ix n)) S).2 = S1 at *
  obtain ⟨d1, d2⟩ := t.d1 nc.k90
  refine mv_arr nc hI.1 hF t hvh hR hV (Or.inl rfl) hc hK ?_
  intro ha hK Q' hQ
  refine Ev.go (Cd.mono 14) [] 100 ?_
  refine And.intro (fun z => absurd z (by decide)) (fun _ => ?_)
  refine And.intro (fun _ => ?_) (fun z => absurd rfl z)
  refine And.intro d2 ?_
  refine And.intro hn ?_
  refine m_next (S := S1) (m := mSetF m (ix (mDeep m - 1)) (mCame m)) (by decide) _ (pIsNode_in nc.wf.1 hk2.1) (t.deepin nc.k90) d2 ?_
  refine hQ _ _ ?_
  rw [d1]
  have ex0 := nc.ex _ hk2.1 hk2.2 κ S1 hI hF
  refine lp_next nc (t.setF _) hI hF hk2.1 hk2.2 (HB_kid hk2.2 (by rw [hvh]; exact hH)) hvh (fun z => hn25 _ z) hK ?_
  intro hx1 hK1 hI1 hF1 hV1 hvh1 m1 t1 hkp1 hR1
  obtain ⟨i1, i2, i3, i4, i5, i6⟩ := ex0
  have e1 : mFirst (mSetF m k (mCame m)) k = rA S1.2.2 := by
    show x_up (mFirst m) k (mCame m) k = _
    rw [x_up_self, hR.2]
  generalize (E (pb P (ix n)) S1).2 = S2 at *
  exact sim_mv2 nc hI1 hF1 hH (by exact t1) hvh1 hR1 hc hk3 hl (aOK_keep i5 ha) (hkp1.2.2.1.trans e1) hK1
end SIMT
