/-! what is at a place, whole -/
section SIML
variable {P : SP} {G : Int → UInt64 → Prop} {E : Int32 → SS → SO} {d : Nat} {n0 : Int32} {Q : xQ} {k : Nat} {m0 : MS} {n : Int32}
theorem aOK_el {h : SH} {a : Int64} {i : Int32} (hI : hInv h) (ha : aOK h a) (he : hHasEl h a.toInt32 i = true) : ∃ q : Nat, (q : Int) < (hTh h).toInt ∧ ¬ hLe h q = -1 ∧ a = lN q ∧ a.toInt32 = nI q ∧ 0 ≤ i.toInt ∧ i.toInt < (hLe h q).toInt := by
  rcases ha with x | ⟨q, hq, hl, x⟩
  · rw [x] at he
    have := hIsThing_rng (hIsArray_thing (hHasEl_arr he))
    exact absurd this.1 (by decide)
  · have e : a.toInt32 = nI q := by rw [x]; exact lN_i q
    have r := hHasEl_rng he
    have h400 := hI.1.2.1
    rw [e, ix_nI (by omega)] at r
    exact ⟨q, hq, hl, x, e, r.1, r.2⟩
set_option maxRecDepth 100000 in
set_option maxHeartbeats 1000000 in
theorem sim_14_end {κ : Int} {S : SS} {m : MS} {b i : Int32} {a : Int64} (nc : NC P G E d n0 Q k m0 n) (hI : Inv G κ S) (hF : rF S.2.2 = 0) (t : TOP k m0 n 3 b S m) (hb : vH S.2.1 = b) (hR : RES S m) (hV : vOK S.1 (rK S.2.2) (rA S.2.2)) (hc : pC P (ix n) = 14) (ha : aOK S.1 a) (e1 : mFirst m k = a) (e2 : mSecond m k = i.toInt64) (hK : KO P d n0 Q k m0 (oAnd (oEl S n a.toInt32 i) (fun S => ePlace P E n a.toInt32 i S))) : Lp P d n0 Q S m := by
  have hn := nc.nin
  have hn25 : ∀ s : Int32, pC P (ix n) = 25 → s ≠ 1 := fun s z => absurd (hc.symm.trans z) (by decide)
  obtain ⟨d1, d2⟩ := t.d1 nc.k90
  have y1 : mFirst m (ix (mDeep m - 1)) = a := by rw [d1]; exact e1
  have y2 : mSecond m (ix (mDeep m - 1)) = i.toInt64 := by rw [d1]; exact e2
  refine lp_step14 nc t hF hc (fun Q' hQ => ?_)
  refine Cd.mk cdX8_stepElement 7 4 2 [(0, .ref 0), (1, .int n), (2, .int 3)] rfl rfl rfl rfl 100 ?_
  refine And.intro hn ?_
  refine And.intro (fun _ => ?_) (fun z => absurd z (by decide))
  refine And.intro (fun _ => ?_) (fun z => absurd z (by decide))
  refine And.intro (fun _ => ?_) (fun z => absurd z (by decide))
  refine And.intro (fun z => absurd hc z) (fun _ => ?_)
  refine m_isThere (i := i) (by decide) n hI.1 hF d2 (by rw [y1]; exact ha) y2 ?_ ?_
  · intro hT
    rw [y1] at hT
    rw [oEl_Te hT] at hK
    have hK : KO P d n0 Q k m0 (ePlace P E n a.toInt32 i S) := hK
    obtain ⟨g1, g2⟩ := oEl_T hT
    obtain ⟨q, hq, hl, hqa, hqi, hi0, hi⟩ := aOK_el hI.1 ha g1
    have h400 := hI.1.1.2.1
    have eq : ix (nI q) = q := ix_nI (by omega)
    rw [hqi] at hK g1
    unfold ePlace at hK
    rw [decide_eq_true hc, cond_true] at hK
    have zT : (mFirst m (ix (mDeep m - 1))).toInt32 = nI q := by rw [y1]; exact hqi
    have zq : ix (mFirst m (ix (mDeep m - 1))).toInt32 = q := by rw [zT]; exact eq
    have zI : (mSecond m (ix (mDeep m - 1))).toInt32 = i := by rw [y2]; exact Int32.toInt32_toInt64 i
    refine And.intro (fun z => absurd z ne10) (fun _ => ?_)
    refine And.intro d2 ?_
    refine And.intro d2 ?_
    refine m_put (by decide) nc.f1 nc.fc hI.1 hR hV _ _ (by rw [zT, eq]) (by rw [zq]; exact hq) (by rw [zq]; exact hl) (by rw [zI]; exact hi0) (by rw [zI, zq]; exact hi) ?_ ?_
    · intro c hc0 hp
      rw [zT, zI] at hp
      have hK2 : oPut S n (nI q) i = (false, sFail S c n) := by
        unfold oPut
        rw [hp]
        rw [decide_eq_false (show ¬ c = 0 from fun z => by rw [z] at hc0; exact absurd hc0 (by decide))]
        rfl
      rw [hK2] at hK
      refine And.intro (fun z => absurd (i_le z) (by show ¬ c.toInt ≤ 0; omega)) (fun _ => ?_)
      refine m_fail (by decide) _ _ ?_
      exact hQ _ _ (lp_fail nc t hb (fun z => hn25 _ z) hc0 hK)
    · intro hnum hp
      rw [zT, zI] at hp
      rw [zq] at hnum
      have hK2 : oPut S n (nI q) i = (true, (hPut0 S.1 (nI q) i (rK S.2.2) (rA S.2.2), S.2)) := by
        unfold oPut
        rw [hp]
        rfl
      have hRp := RR_put (b := b) (n := n) (t := nI q) (i := i) nc.go hI hb hV
      rw [hK2] at hK hRp
      have hks : hKeep S.1 (hPut0 S.1 (nI q) i (rK S.2.2) (rA S.2.2)) := hRp.2.2.2.1
      have hK : KO P d n0 Q k m0 (true, sGive (hPut0 S.1 (nI q) i (rK S.2.2) (rA S.2.2), S.2) (hKindAt (hPut0 S.1 (nI q) i (rK S.2.2) (rA S.2.2)) (nI q) i) (hAmAt (hPut0 S.1 (nI q) i (rK S.2.2) (rA S.2.2)) (nI q) i)) := hK
      have f1 := (arr_facts hI.1 hq hl).1
      have f2 := (arr_facts hI.1 hq hl).2.1
      have hk0 : bI (!decide (rK S.2.2 = 0)) = bI (!decide (hKindAt (hPut0 S.1 (nI q) i (rK S.2.2) (rA S.2.2)) (nI q) i = 0)) := by
        rw [bI_inj, ← hnum]
        have ka := hKeep_arr hks hI.1.1 f1
        unfold hKindAt hNums
        rw [ka.2.2, f2]
        cases tIsNum (hTy S.1 q - 16)
        · show true = !decide ((bif decide (hAmAt (hPut0 S.1 (nI q) i (rK S.2.2) (rA S.2.2)) (nI q) i = -1) then (1 : Int32) else 2) = 0)
          cases decide (hAmAt (hPut0 S.1 (nI q) i (rK S.2.2) (rA S.2.2)) (nI q) i = -1) <;> rfl
        · rfl
      have ham : hAmAt (hPut0 S.1 (nI q) i (rK S.2.2) (rA S.2.2)) (nI q) i = hAm (hPut0 S.1 (nI q) i (rK S.2.2) (rA S.2.2)) (ix (hSt S.1 q + i)) := by
        unfold hAmAt
        rw [hKeep_el hks hI.1.1 g1, eq, (hks.2 q hq).2.1]
        rfl
      rw [ham] at hK
      have hr : mRef m = 0 ∨ mRef m = 1 := by rw [hR.1]; exact bI01 _
      rw [zT, zI, eq]
      refine And.intro (fun _ => ?_) (fun z => absurd (Int32.le_refl _) z)
      refine m_give (S := (hPut0 S.1 (nI q) i (rK S.2.2) (rA S.2.2), S.2)) (m := mSetR m (mRef m) (hAm (hPut0 S.1 (nI q) i (rK S.2.2) (rA S.2.2)) (ix (hSt S.1 q + i)))) (by decide) _ _ hr d2 ?_
      refine hQ _ _ ?_
      exact lp_give (S := (hPut0 S.1 (nI q) i (rK S.2.2) (rA S.2.2), S.2)) (m := mSetR m (mRef m) (hAm (hPut0 S.1 (nI q) i (rK S.2.2) (rA S.2.2)) (ix (hSt S.1 q + i)))) nc (by exact t) hb (hR.1.trans hk0) hK
  · intro c hc0 hE
    rw [y1] at hE
    rw [hE] at hK
    refine And.intro (fun _ => ?_) (fun z => absurd rfl z)
    exact hQ _ _ (lp_fail nc t hb (fun z => hn25 _ z) hc0 hK)
set_option maxRecDepth 100000 in
set_option maxHeartbeats 1000000 in
theorem sim_place2 {κ : Int} {S : SS} {m : MS} {b : Int32} {a : Int64} (nc : NC P G E d n0 Q k m0 n) (hI : Inv G κ S) (hF : rF S.2.2 = 0) (hH : b.toInt ≤ HB P n) (t : TOP k m0 n 2 b S m) (hb : vH S.2.1 = b) (hR : RES S m) (hc : pC P (ix n) = 13 ∨ pC P (ix n) = 14 ∨ pC P (ix n) = 15 ∨ pC P (ix n) = 16) (hkc : (pC P (ix n) = 14 ∨ pC P (ix n) = 15) → pIsNode P (pc' P (ix n)) = true ∧ (pc' P (ix n)).toInt < n.toInt) (ha : aOK S.1 a) (e1 : mFirst m k = a) (hK : KO P d n0 Q k m0 (oAnd (oNum S n) (fun S2 => oAnd (bif decide (pC P (ix n) = 14) then E (pc' P (ix n)) S2 else (true, S2)) (fun S => oAnd (oEl S n a.toInt32 (rA S2.2.2).toInt32) (fun S => ePlace P E n a.toInt32 (rA S2.2.2).toInt32 S))))) : Lp P d n0 Q S m := by
  have hn := nc.nin
  have hn25 : ∀ s : Int32, pC P (ix n) = 25 → s ≠ 1 := fun s z => by rcases hc with hc | hc | hc | hc <;> exact absurd (hc.symm.trans z) (by decide)
  obtain ⟨d1, d2⟩ := t.d1 nc.k90
  refine lp_stepE nc t hF hc (fun Q' hQ => ?_)
  refine Cd.mk cdX8_stepElement 7 4 2 [(0, .ref 0), (1, .int n), (2, .int 2)] rfl rfl rfl rfl 100 ?_
  refine And.intro hn ?_
  refine And.intro (fun _ => ?_) (fun z => absurd z (by decide))
  refine And.intro (fun _ => ?_) (fun z => absurd z (by decide))
  refine And.intro (fun z => absurd rfl z) (fun _ => ?_)
  by_cases hz : rK S.2.2 = 0
  · refine m_wnumT (by decide) n hR hz ?_
    refine And.intro (fun z => absurd z ne10) (fun _ => ?_)
    rw [oNum_T hz] at hK
    have hK : KO P d n0 Q k m0 (oAnd (bif decide (pC P (ix n) = 14) then E (pc' P (ix n)) S else (true, S)) (fun S' => oAnd (oEl S' n a.toInt32 (rA S.2.2).toInt32) (fun S' => ePlace P E n a.toInt32 (rA S.2.2).toInt32 S'))) := hK
    refine And.intro d2 ?_
    have tS : TOP k m0 n 2 b S (mSetS m (ix (mDeep m - 1)) (mCame m).toInt32.toInt64) := by rw [d1]; exact t.setS _
    have eS : mSecond (mSetS m (ix (mDeep m - 1)) (mCame m).toInt32.toInt64) k = (rA S.2.2).toInt32.toInt64 := by
      show x_up (mSecond m) (ix (mDeep m - 1)) (mCame m).toInt32.toInt64 k = _
      rw [d1, x_up_self, hR.2]
    have eF : mFirst (mSetS m (ix (mDeep m - 1)) (mCame m).toInt32.toInt64) k = a := e1
    have hdd : mDeep (mSetS m (ix (mDeep m - 1)) (mCame m).toInt32.toInt64) = mDeep m := rfl
    refine And.intro (fun h14 => ?_) (fun h14 => ?_)
    · rw [decide_eq_false (show ¬ pC P (ix n) = 14 from h14), cond_false] at hK
      have hK : KO P d n0 Q k m0 (oAnd (oEl S n a.toInt32 (rA S.2.2).toInt32) (fun S' => ePlace P E n a.toInt32 (rA S.2.2).toInt32 S')) := hK
      have hc3 : pC P (ix n) = 13 ∨ pC P (ix n) = 15 ∨ pC P (ix n) = 16 := by
        rcases hc with hc | hc | hc
        · exact Or.inl hc
        · exact absurd hc h14
        · exact Or.inr hc
      have y1 : mFirst (mSetS m (ix (mDeep m - 1)) (mCame m).toInt32.toInt64) (ix (mDeep (mSetS m (ix (mDeep m - 1)) (mCame m).toInt32.toInt64) - 1)) = a := by rw [hdd, d1]; rw [d1] at eF; exact eF
      have y2 : mSecond (mSetS m (ix (mDeep m - 1)) (mCame m).toInt32.toInt64) (ix (mDeep (mSetS m (ix (mDeep m - 1)) (mCame m).toInt32.toInt64) - 1)) = (rA S.2.2).toInt32.toInt64 := by rw [hdd, d1]; rw [d1] at eS; exact eS
      refine m_isThere (i := (rA S.2.2).toInt32) (m := mSetS m (ix (mDeep m - 1)) (mCame m).toInt32.toInt64) (by decide) n hI.1 hF d2 (by rw [y1]; exact ha) y2 ?_ ?_
      · intro hT
        rw [y1] at hT
        rw [oEl_Te hT] at hK
        have hK : KO P d n0 Q k m0 (ePlace P E n a.toInt32 (rA S.2.2).toInt32 S) := hK
        obtain ⟨g1, g2⟩ := oEl_T hT
        obtain ⟨q, hq, hl, hqa, hqi, hi0, hi⟩ := aOK_el hI.1 ha g1
        rw [hqi] at hK
        refine And.intro (fun z => absurd z ne10) (fun _ => ?_)
        refine Cd.up (show 13 ≤ 14 by decide) (M := 136) (as := [.ref 0, .int n, .int (pC P (ix n))]) (w := wM P S (mSetS m (ix (mDeep m - 1)) (mCame m).toInt32.toInt64)) ?_
        exact sim_there (i := (rA S.2.2).toInt32) (q := q) (b := b) nc hI hF hH tS hb hc3 (fun z => hkc (Or.inr z)) hq hl hi0 hi (eF.trans hqa) eS hK _ (fun S' m' z => hQ S' m' z)
      · intro c hc0 hE
        rw [y1] at hE
        rw [hE] at hK
        refine And.intro (fun _ => ?_) (fun z => absurd rfl z)
        exact hQ _ _ (lp_fail nc tS hb (fun z => hn25 _ z) hc0 hK)
    · have h14 : pC P (ix n) = 14 := h14
      obtain ⟨kc1, kc2⟩ := hkc (Or.inl h14)
      rw [decide_eq_true h14, cond_true] at hK
      refine And.intro hn ?_
      refine m_next (m := mSetS m (ix (mDeep m - 1)) (mCame m).toInt32.toInt64) (by decide) _ (pIsNode_in nc.wf.1 kc1) (t.deepin nc.k90) d2 ?_
      refine hQ _ _ ?_
      have ex0 := nc.ex _ kc1 kc2 κ S hI hF
      refine lp_next nc tS hI hF kc1 kc2 (HB_kid kc2 (by rw [hb]; exact hH)) hb (fun z => hn25 _ z) hK ?_
      intro hx hK1 hI1 hF1 hV1 hvh1 m1 t1 hkp1 hR1
      obtain ⟨i1, i2, i3, i4, i5, i6⟩ := ex0
      generalize (E (pc' P (ix n)) S).2 = S1 at *
      exact sim_14_end (a := a) (i := (rA S.2.2).toInt32) nc hI1 hF1 (by exact t1) hvh1 hR1 hV1 h14 (aOK_keep i5 ha) (hkp1.2.2.1.trans eF) (hkp1.2.2.2.1.trans eS) hK1
  · refine m_wnumF (by decide) n hR hz ?_
    refine And.intro (fun _ => ?_) (fun z => absurd rfl z)
    rw [oNum_F hz] at hK
    exact hQ _ _ (lp_fail nc t hb (fun z => hn25 _ z) (by decide) hK)
set_option maxRecDepth 100000 in
set_option maxHeartbeats 1000000 in
theorem sim_place {κ : Int} {S : SS} {m : MS} (nc : NC P G E d n0 Q k m0 n) (hI : Inv G κ S) (hF : rF S.2.2 = 0) (hH : (vH S.2.1).toInt ≤ HB P n) (t : TOP k m0 n 0 (vH S.2.1) S m) (hc : pC P (ix n) = 13 ∨ pC P (ix n) = 14 ∨ pC P (ix n) = 15 ∨ pC P (ix n) = 16) (hK : KO P d n0 Q k m0 (eAtPlace P E n S)) : Lp P d n0 Q S m := by
  have hfit := pFit nc.wf nc.nd
  have hfit2 : (pIsNode (pPre P (ix n)) (pa P (ix n)) = true ∧ pIsNode (pPre P (ix n)) (pb P (ix n)) = true) ∧ ((pC P (ix n) = 14 ∨ pC P (ix n) = 15) → pIsNode (pPre P (ix n)) (pc' P (ix n)) = true) := by
    rcases hc with hc | hc | hc | hc
    · rw [hc] at hfit
      have := Bool.and_eq_true_iff.mp (show (pIsNode (pPre P (ix n)) (pa P (ix n)) && pIsNode (pPre P (ix n)) (pb P (ix n))) = true from hfit)
      exact ⟨this, fun z => by rw [hc] at z; exact absurd z (by decide)⟩
    · rw [hc] at hfit
      have := Bool.and_eq_true_iff.mp (show (pIsNode (pPre P (ix n)) (pa P (ix n)) && (pIsNode (pPre P (ix n)) (pb P (ix n)) && pIsNode (pPre P (ix n)) (pc' P (ix n)))) = true from hfit)
      have t2 := Bool.and_eq_true_iff.mp this.2
      exact ⟨⟨this.1, t2.1⟩, fun _ => t2.2⟩
    · rw [hc] at hfit
      have := Bool.and_eq_true_iff.mp (show (pIsNode (pPre P (ix n)) (pa P (ix n)) && (pIsNode (pPre P (ix n)) (pb P (ix n)) && pIsNode (pPre P (ix n)) (pc' P (ix n)))) = true from hfit)
      have t2 := Bool.and_eq_true_iff.mp this.2
      exact ⟨⟨this.1, t2.1⟩, fun _ => t2.2⟩
    · rw [hc] at hfit
      have := Bool.and_eq_true_iff.mp (show (pIsNode (pPre P (ix n)) (pa P (ix n)) && pIsNode (pPre P (ix n)) (pb P (ix n))) = true from hfit)
      exact ⟨this, fun z => by rw [hc] at z; exact absurd z (by decide)⟩
  have hk1 := pKid nc.nd hfit2.1.1
  have hk2 := pKid nc.nd hfit2.1.2
  have hkc : (pC P (ix n) = 14 ∨ pC P (ix n) = 15) → pIsNode P (pc' P (ix n)) = true ∧ (pc' P (ix n)).toInt < n.toInt := fun z => pKid nc.nd (hfit2.2 z)
  have hn := nc.nin
  have hn25 : ∀ s : Int32, pC P (ix n) = 25 → s ≠ 1 := fun s z => by rcases hc with hc | hc | hc | hc <;> exact absurd (hc.symm.trans z) (by decide)
  unfold eAtPlace at hK
  refine lp_stepE nc t hF hc (fun Q' hQ => ?_)
  refine Cd.mk cdX8_stepElement 7 4 2 [(0, .ref 0), (1, .int n), (2, .int 0)] rfl rfl rfl rfl 100 ?_
  refine And.intro hn ?_
  refine And.intro (fun z => absurd rfl z) (fun _ => ?_)
  refine And.intro hn ?_
  refine m_next (by decide) _ (pIsNode_in nc.wf.1 hk1.1) (t.deepin nc.k90) (t.d1 nc.k90).2 ?_
  refine hQ _ _ ?_
  refine lp_next nc t hI hF hk1.1 hk1.2 (HB_kid hk1.2 hH) rfl (fun z => hn25 _ z) hK ?_
  intro hx hK hI hF hV hvh m t hkp hR
  generalize (E (pa P (ix n)) S).2 = S1 at *
  obtain ⟨e1, e2⟩ := t.d1 nc.k90
  refine lp_stepE nc t hF hc (fun Q' hQ => ?_)
  refine Cd.mk cdX8_stepElement 7 4 2 [(0, .ref 0), (1, .int n), (2, .int 1)] rfl rfl rfl rfl 100 ?_
  refine And.intro hn ?_
  refine And.intro (fun _ => ?_) (fun z => absurd z (by decide))
  refine And.intro (fun z => absurd rfl z) (fun _ => ?_)
  refine m_warr (by decide) n hI.1 hR hV ?_ ?_
  · intro hT
    refine And.intro (fun z => absurd z ne10) (fun _ => ?_)
    have ha := oArr_aOK hV hI.1 hT
    rw [oArr_Te hT] at hK
    have hK : KO P d n0 Q k m0 (oAnd (E (pb P (ix n)) S1) (fun S => oAnd (oNum S n) (fun S2 => oAnd (bif decide (pC P (ix n) = 14) then E (pc' P (ix n)) S2 else (true, S2)) (fun S => oAnd (oEl S n (rA S1.2.2).toInt32 (rA S2.2.2).toInt32) (fun S => ePlace P E n (rA S1.2.2).toInt32 (rA S2.2.2).toInt32 S))))) := hK
    refine And.intro e2 ?_
    refine And.intro hn ?_
    refine m_next (m := mSetF m (ix (mDeep m - 1)) (mCame m)) (by decide) _ (pIsNode_in nc.wf.1 hk2.1) (t.deepin nc.k90) e2 ?_
    refine hQ _ _ ?_
    have ex0 := nc.ex _ hk2.1 hk2.2 κ S1 hI hF
    refine lp_next nc (show TOP k m0 n 1 (vH S.2.1) S1 (mSetF m (ix (mDeep m - 1)) (mCame m)) by rw [e1]; exact t.setF _) hI hF hk2.1 hk2.2 (HB_kid hk2.2 (by rw [hvh]; exact hH)) hvh (fun z => hn25 _ z) hK ?_
    intro hx2 hK2 hI2 hF2 hV2 hvh2 m2 t2 hkp2 hR2
    obtain ⟨i1, i2, i3, i4, i5, i6⟩ := ex0
    generalize (E (pb P (ix n)) S1).2 = S2 at *
    refine sim_place2 (a := rA S1.2.2) nc hI2 hF2 hH (by exact t2) hvh2 hR2 hc hkc (aOK_keep i5 ha) ?_ hK2
    rw [hkp2.2.2.1]
    show x_up (mFirst m) (ix (mDeep m - 1)) (mCame m) k = _
    rw [e1, x_up_self, hR.2]
  · intro hT
    refine And.intro (fun _ => ?_) (fun z => absurd rfl z)
    rw [oArr_F hT] at hK
    exact hQ _ _ (lp_fail nc t hvh (fun z => hn25 _ z) (by decide) hK)
end SIML
