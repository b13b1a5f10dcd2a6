/-! what is at a place -/
theorem oEl_Te {S : SS} {n t i : Int32} (h : (oEl S n t i).1 = true) : oEl S n t i = (true, S) := by
  obtain ⟨a, b⟩ := oEl_T h
  unfold oEl
  rw [decide_eq_false b, a]
  rfl
def mSetS (m : MS) (i : Nat) (v : Int64) : MS := (m.1, (mDeep m, mAt m, mStage m, mIndex m, mFRef m, mFirst m, x_up (mSecond m) i v, m.2.1.2.2.2.2.2.2.2), m.2.2)
def mSetTR (m : MS) (i : Nat) (v : Int64) (r : UInt64) : MS := (m.1, (mDeep m, mAt m, mStage m, mIndex m, mFRef m, mFirst m, mSecond m, x_up (mThird m) i v, mFourth m, x_up (mReal m) i r, mBase m), m.2.2)
theorem TOP.setS {k : Nat} {m0 : MS} {n s b : Int32} {S : SS} {m : MS} (t : TOP k m0 n s b S m) (x : Int64) : TOP k m0 n s b S (mSetS m k x) := by
  refine ⟨t.1, t.2.1, ?_, t.2.2.2⟩
  intro j hj
  rw [← t.2.2.1 j hj]
  unfold mRow mSetS
  simp only [mStage, mAt, mIndex, mFRef, mFirst, mSecond, mThird, mFourth, mReal, mBase]
  rw [x_up_ne _ _ (by omega)]
theorem TOP.setTR {k : Nat} {m0 : MS} {n s b : Int32} {S : SS} {m : MS} (t : TOP k m0 n s b S m) (x : Int64) (r : UInt64) : TOP k m0 n s b S (mSetTR m k x r) := by
  refine ⟨t.1, t.2.1, ?_, t.2.2.2⟩
  intro j hj
  rw [← t.2.2.1 j hj]
  unfold mRow mSetTR
  simp only [mStage, mAt, mIndex, mFRef, mFirst, mSecond, mThird, mFourth, mReal, mBase]
  rw [x_up_ne _ _ (by omega), x_up_ne _ _ (by omega)]
/-- an array, or NULL, as a long -/
def aOK (h : SH) (a : Int64) : Prop := a = -1 ∨ ∃ q : Nat, (q : Int) < (hTh h).toInt ∧ ¬ hLe h q = -1 ∧ a = lN q
theorem aOK_keep {h h' : SH} (hk : hKeep h h') {a : Int64} (ha : aOK h a) : aOK h' a := by
  rcases ha with x | ⟨q, x, y, z⟩
  · exact Or.inl x
  · exact Or.inr ⟨q, by have := hk.1; omega, by rw [(hk.2 q x).2.2]; exact y, z⟩
theorem oArr_aOK {S : SS} {n : Int32} (hV : vOK S.1 (rK S.2.2) (rA S.2.2)) (hI : hInv S.1) (h : (oArr S n).1 = true) : aOK S.1 (rA S.2.2) := by
  rcases oArr_T h with h1 | ⟨h2, ha⟩
  · rcases hV with x | x | x
    · rw [h1] at x; exact absurd x ne10
    · exact Or.inl x.2
    · rw [h1] at x; exact absurd x.1 (by decide)
  · rcases hV with x | x | ⟨_, q, hq, hqa⟩
    · rw [h2] at x; exact absurd x (by decide)
    · rw [h2] at x; exact absurd x.1 (by decide)
    · refine Or.inr ⟨q, hq, ?_, hqa⟩
      obtain ⟨a1, a2, a3⟩ := arr_nI hI.1 ha
      obtain ⟨f1, f2, f3, f4, f5⟩ := thing_facts hI hq
      rw [hqa, f1, f2] at a3
      exact a3
theorem lt64 {a b : Int32} : (a.toInt64 < b.toInt64) ↔ (a < b) := by rw [Int64.lt_iff_toInt_lt, i64_of, i64_of, Int32.lt_iff_toInt_lt]
set_option maxRecDepth 100000 in
set_option maxHeartbeats 1000000 in
theorem m_isThere {D : Nat} (hD : 2 ≤ D) {P : SP} {S : SS} {m : MS} {Q : xQ} (n i : Int32) (hI : hInv S.1) (hF : rF S.2.2 = 0) (hdp : vp_in (mDeep m - 1) 100) (ha : aOK S.1 (mFirst m (ix (mDeep m - 1)))) (hi : mSecond m (ix (mDeep m - 1)) = i.toInt64) (hT : (oEl S n (mFirst m (ix (mDeep m - 1))).toInt32 i).1 = true → Q (some (.int 1)) (wM P S m)) (hN : ∀ c : Int32, 0 < c.toInt → oEl S n (mFirst m (ix (mDeep m - 1))).toInt32 i = (false, sFail S c n) → Q (some (.int 0)) (wM P (sFail S c n) m)) : Cd D 134 [.ref 0, .int n] (wM P S m) Q := by
  refine Cd.up hD ?_
  refine Cd.mk cdX8_isThere 3 4 1 [(0, .ref 0), (1, .int n)] rfl rfl rfl rfl 100 ?_
  refine And.intro hdp ?_
  rcases ha with x | ⟨q, hq, hl, x⟩
  · have e1 : (mFirst m (ix (mDeep m - 1))).toInt32 = -1 := by rw [x]; rfl
    have hlt : mFirst m (ix (mDeep m - 1)) < 0 := by rw [x]; decide
    refine And.intro (fun z => absurd hlt (by rw [lc_ge] at z; exact z)) (fun _ => ?_)
    refine m_fail (by decide) _ _ ?_
    refine And.intro (fun _ => ?_) (fun z => absurd (show (1 : Int32) = 0 from z) (by decide))
    refine And.intro (Or.inl rfl) ?_
    refine hN 1 (by decide) ?_
    unfold oEl
    rw [e1]
    rfl
  · obtain ⟨f1, f2, f3, f4, f5⟩ := thing_facts hI hq
    have e1 : (mFirst m (ix (mDeep m - 1))).toInt32 = nI q := by rw [x]; exact f1
    have hin : vp_in (mFirst m (ix (mDeep m - 1))).toInt32 400 := by rw [e1]; exact f3
    have h400 := hI.1.2.1
    have hnlt : ¬ mFirst m (ix (mDeep m - 1)) < 0 := by
      rw [x, Int64.lt_iff_toInt_lt, lN_toInt (by omega)]
      show ¬ (q : Int) < 0
      omega
    have hne : ¬ nI q = -1 := nI_ne rfl (by omega)
    refine And.intro (fun _ => ?_) (fun z => absurd (by rw [lc_ge]; exact hnlt) z)
    refine And.intro hdp ?_
    refine And.intro hdp ?_
    refine m_hasElement (by decide) _ _ hin ?_
    rw [e1, f2, hi]
    have eb : (!decide (i.toInt64 < 0) && decide (i.toInt64 < (hLe S.1 q).toInt64)) = hHasEl S.1 (nI q) i := by
      obtain ⟨g1, g2⟩ := arr_facts hI hq hl
      unfold hHasEl
      rw [g1, f2, Bool.true_and]
      have h1 : (i.toInt64 < 0) ↔ i < 0 := lt64 (b := 0)
      have h2 : (i.toInt64 < (hLe S.1 q).toInt64) ↔ i < hLe S.1 q := lt64
      by_cases c1 : i < 0
      · rw [decide_eq_true c1, decide_eq_true (h1.mpr c1)]
        rfl
      · rw [decide_eq_false c1, decide_eq_false (fun z => c1 (h1.mp z))]
        by_cases c2 : i < hLe S.1 q
        · rw [decide_eq_true (h2.mpr c2), decide_eq_false (show ¬ hLe S.1 q ≤ i from fun z => by have := i_lt c2; have := i_le z; omega)]
          rfl
        · rw [decide_eq_false (fun z => c2 (h2.mp z)), decide_eq_true (show hLe S.1 q ≤ i from Int32.not_lt.mp c2)]
          rfl
    rw [eb]
    unfold oEl at hT hN
    rw [e1, decide_eq_false hne, cond_false] at hT hN
    cases he : hHasEl S.1 (nI q) i
    · rw [he] at hN
      refine And.intro (fun z => absurd rfl z) (fun _ => ?_)
      refine m_fail (by decide) _ _ ?_
      refine And.intro (fun _ => ?_) (fun z => absurd (show (2 : Int32) = 0 from z) (by decide))
      refine And.intro (Or.inl rfl) ?_
      exact hN 2 (by decide) rfl
    · rw [he] at hT
      refine And.intro (fun _ => ?_) (fun z => absurd z ne10)
      refine And.intro (fun z => absurd hF z) (fun _ => ?_)
      refine And.intro (Or.inr rfl) ?_
      exact hT rfl
/-- what more() lays is the sum -/
theorem uMore_sum {h : SH} {t i : Int32} {a : Int64} {r : UInt64} {m : Int64} (he : hHasEl h t i = true) (hn : tIsNum (hTyEl h t) = true) : uMore h (hSt h (ix t) + i) (hTyEl h t) r (bif decide (hTyEl h t ≤ 5) then a + m else m) = hSum h t i a r m := by
  have hr := tIsNum_rng hn
  unfold uMore hSum hSum0
  rw [he]
  simp only [Bool.not_true, cond_false]
  by_cases h6 : hTyEl h t = 6
  · rw [decide_eq_true h6, decide_eq_false (show ¬ hTyEl h t ≤ 5 by rw [h6]; decide)]
    simp only [cond_true, cond_false]
  · by_cases h7 : hTyEl h t = 7
    · rw [decide_eq_false h6, decide_eq_true h7, decide_eq_false (show ¬ hTyEl h t ≤ 5 by rw [h7]; decide)]
      simp only [cond_true, cond_false]
    · have h5 : hTyEl h t ≤ 5 := by
        have n6 : (hTyEl h t).toInt ≠ 6 := fun y => h6 (Int32.toInt_inj.mp y)
        have n7 : (hTyEl h t).toInt ≠ 7 := fun y => h7 (Int32.toInt_inj.mp y)
        rw [Int32.le_iff_toInt_le]
        show (hTyEl h t).toInt ≤ 5
        omega
      rw [decide_eq_false h6, decide_eq_false h7, decide_eq_true h5]
      simp only [cond_true, cond_false]
section SIMK
variable {P : SP} {G : Int → UInt64 → Prop} {E : Int32 → SS → SO} {d : Nat} {n0 : Int32} {Q : xQ} {k : Nat} {m0 : MS} {n : Int32}
theorem lp_stepE {s b : Int32} {S : SS} {m : MS} (nc : NC P G E d n0 Q k m0 n) (t : TOP k m0 n s b S m) (hF : rF S.2.2 = 0) (hc : pC P (ix n) = 13 ∨ pC P (ix n) = 14 ∨ pC P (ix n) = 15 ∨ pC P (ix n) = 16) (h : ∀ Q' : xQ, (∀ S' m', Lp P d n0 Q S' m' → Q' none (wM P S' m')) → Cd 15 135 [.ref 0, .int n, .int s] (wM P S m) Q') : Lp P d n0 Q S m := by
  rcases hc with hc | hc | hc | hc
  · exact lp_step13 nc t hF hc h
  · exact lp_step14 nc t hF hc h
  · exact lp_step15 nc t hF hc h
  · exact lp_step16 nc t hF hc h
theorem Inv_fOK {κ : Int} {S : SS} (go : GO G) (hI : Inv G κ S) {r : UInt64} (hr : G (κ + (rN S.2.2).toInt) r) (v : Int64) : fOK6 r v ∧ fOK7 r v := by
  have := hI.2.2.2.2.2.1
  have := hI.2.2.2.2.2.2.2.1
  have g := go.1 _ _ hr (by omega) v
  exact ⟨g.1.1, g.2.1⟩
set_option maxRecDepth 100000 in
set_option maxHeartbeats 1000000 in
theorem sim_15_end {κ : Int} {S : SS} {m : MS} {b i : Int32} {q : Nat} {a : Int64} {r : UInt64} (nc : NC P G E d n0 Q k m0 n) (hI : Inv G κ S) (hF : rF S.2.2 = 0) (t : TOP k m0 n 3 b S m) (hb : vH S.2.1 = b) (hR : RES S m) (hc : pC P (ix n) = 15) (hq : (q : Int) < (hTh S.1).toInt) (hl : ¬ hLe S.1 q = -1) (hi0 : 0 ≤ i.toInt) (hi : i.toInt < (hLe S.1 q).toInt) (hnum : hNums S.1 (nI q) = true) (e1 : mFirst m k = lN q) (e2 : mSecond m k = i.toInt64) (e3 : mThird m k = a) (e4 : mReal m k = r) (hr : G (κ + (rN S.2.2).toInt) r) (hK : KO P d n0 Q k m0 (oAnd (oNum S n) (fun S => (true, sGiveEl (hSum S.1 (nI q) i a r (rA S.2.2), S.2) (nI q) i)))) : Lp P d n0 Q S m := by
  have hn := nc.nin
  have hn25 : ∀ s : Int32, pC P (ix n) = 25 → s ≠ 1 := fun s z => absurd (hc.symm.trans z) (by decide)
  obtain ⟨d1, d2⟩ := t.d1 nc.k90
  have h400 := hI.1.1.2.1
  have eq : ix (nI q) = q := ix_nI (by omega)
  obtain ⟨f1, f2, f3, f4, f5, f6, f7⟩ := arr_facts hI.1 hq hl
  obtain ⟨g1, g2, g3, g4⟩ := el_facts hI.1 hq hl hi0 hi
  have z1 : (mFirst m (ix (mDeep m - 1))).toInt32 = nI q := by rw [d1, e1]; exact lN_i q
  have z2 : (mSecond m (ix (mDeep m - 1))).toInt32 = i := by rw [d1, e2]; exact Int32.toInt32_toInt64 i
  have z3 : mThird m (ix (mDeep m - 1)) = a := by rw [d1]; exact e3
  have z4 : mReal m (ix (mDeep m - 1)) = r := by rw [d1]; exact e4
  have zin : vp_in (mFirst m (ix (mDeep m - 1))).toInt32 400 := by rw [z1]; exact (thing_facts hI.1 hq).2.2.1
  have hnum2 : tIsNum (hTyEl S.1 (nI q)) = true := hnum
  have hum := uMore_sum (h := S.1) (t := nI q) (i := i) (a := a) (r := r) (m := rA S.2.2) g1 hnum2
  rw [eq, f2] at hum
  rw [f2] at hnum2
  have hks := (hInv_sum hI.1 (t := nI q) (i := i) (a := a) (r := r) (m := rA S.2.2) hnum).2.1
  refine lp_step15 nc t hF hc (fun Q' hQ => ?_)
  refine Cd.mk cdX8_stepElement 7 4 2 [(0, .ref 0), (1, .int n), (2, .int 3)] rfl rfl rfl rfl 100 ?_
  refine And.intro hn ?_
  refine And.intro (fun _ => ?_) (fun z => absurd z (by decide))
  refine And.intro (fun _ => ?_) (fun z => absurd z (by decide))
  refine And.intro (fun _ => ?_) (fun z => absurd z (by decide))
  refine And.intro (fun _ => ?_) (fun z => absurd (hc.symm.trans z) (by decide))
  by_cases hz : rK S.2.2 = 0
  · refine m_wnumT (by decide) n hR hz ?_
    refine And.intro (fun z => absurd z ne10) (fun _ => ?_)
    rw [oNum_T hz] at hK
    have hK : KO P d n0 Q k m0 (true, sGiveEl (hSum S.1 (nI q) i a r (rA S.2.2), S.2) (nI q) i) := hK
    have hk0 : hKindAt (hSum S.1 (nI q) i a r (rA S.2.2)) (nI q) i = 0 := by
      have ka := hKeep_arr hks hI.1.1 f1
      unfold hKindAt hNums
      rw [ka.2.2]
      have : tIsNum (hTyEl S.1 (nI q)) = true := hnum
      rw [this]
      rfl
    have ham : hAmAt (hSum S.1 (nI q) i a r (rA S.2.2)) (nI q) i = hAm (hSum S.1 (nI q) i a r (rA S.2.2)) (ix (hSt S.1 q + i)) := by
      unfold hAmAt
      rw [hKeep_el hks hI.1.1 g1, eq, (hks.2 q hq).2.1]
      rfl
    unfold sGiveEl at hK
    have hK : KO P d n0 Q k m0 (true, sGive (hSum S.1 (nI q) i a r (rA S.2.2), S.2) (hKindAt (hSum S.1 (nI q) i a r (rA S.2.2)) (nI q) i) (hAmAt (hSum S.1 (nI q) i a r (rA S.2.2)) (nI q) i)) := hK
    rw [hk0, ham] at hK
    have hfin := lp_give (S := (hSum S.1 (nI q) i a r (rA S.2.2), S.2)) (kk := 0) (r := 0) nc (by exact t) hb rfl hK
    rw [← hum, ← hR.2] at hfin
    have hfk := Inv_fOK nc.go hI hr
    refine And.intro d2 ?_
    refine And.intro d2 ?_
    refine m_placeOf (by decide) _ _ zin ?_
    rw [z1, z2, eq]
    refine And.intro d2 ?_
    refine And.intro zin ?_
    refine And.intro d2 ?_
    rw [z1, z4, show (nI q).toNatClampNeg = q from eq]
    refine And.intro (fun h5 => ?_) (fun h5 => ?_)
    · refine And.intro d2 ?_
      rw [z3]
      rw [decide_eq_true (show hTy S.1 q - 16 ≤ 5 from h5), cond_true] at hfin
      refine m_more (by decide) nc.f1 nc.fc _ _ _ _ g2 (tIsNum_rng hnum2) (fun _ => (hfk _).1) (fun _ => (hfk _).2) ?_
      refine And.intro g2 ?_
      refine m_number (S := (uMore S.1 (hSt S.1 q + i) (hTy S.1 q - 16) r (a + mCame m), S.2)) (m := m) (by decide) _ d2 ?_
      exact hQ _ _ hfin
    · rw [decide_eq_false (show ¬ hTy S.1 q - 16 ≤ 5 from h5), cond_false] at hfin
      refine m_more (by decide) nc.f1 nc.fc _ _ _ _ g2 (tIsNum_rng hnum2) (fun _ => (hfk _).1) (fun _ => (hfk _).2) ?_
      refine And.intro g2 ?_
      refine m_number (S := (uMore S.1 (hSt S.1 q + i) (hTy S.1 q - 16) r (mCame m), S.2)) (m := m) (by decide) _ d2 ?_
      exact hQ _ _ hfin
  · refine m_wnumF (by decide) n hR hz ?_
    refine And.intro (fun _ => ?_) (fun z => absurd rfl z)
    rw [oNum_F hz] at hK
    exact hQ _ _ (lp_fail nc t hb (fun z => hn25 _ z) (by decide) hK)
set_option maxRecDepth 100000 in
set_option maxHeartbeats 1000000 in
theorem sim_there {κ : Int} {S : SS} {m : MS} {b i : Int32} {q : Nat} (nc : NC P G E d n0 Q k m0 n) (hI : Inv G κ S) (hF : rF S.2.2 = 0) (hH : b.toInt ≤ HB P n) (t : TOP k m0 n 2 b S m) (hb : vH S.2.1 = b) (hc : pC P (ix n) = 13 ∨ pC P (ix n) = 15 ∨ pC P (ix n) = 16) (hkc : pC P (ix n) = 15 → pIsNode P (pc' P (ix n)) = true ∧ (pc' P (ix n)).toInt < n.toInt) (hq : (q : Int) < (hTh S.1).toInt) (hl : ¬ hLe S.1 q = -1) (hi0 : 0 ≤ i.toInt) (hi : i.toInt < (hLe S.1 q).toInt) (e1 : mFirst m k = lN q) (e2 : mSecond m k = i.toInt64) (hK : KO P d n0 Q k m0 (ePlace P E n (nI q) i S)) (Q' : xQ) (hQ : ∀ S' m', Lp P d n0 Q S' m' → Q' none (wM P S' m')) : Cd 13 136 [.ref 0, .int n, .int (pC P (ix n))] (wM P S m) Q' := by
  have hn := nc.nin
  have hn25 : ∀ s : Int32, pC P (ix n) = 25 → s ≠ 1 := fun s z => by rcases hc with hc | hc | hc <;> exact absurd (hc.symm.trans z) (by decide)
  obtain ⟨d1, d2⟩ := t.d1 nc.k90
  have h400 := hI.1.1.2.1
  have eq : ix (nI q) = q := ix_nI (by omega)
  obtain ⟨f1, f2, f3, f4, f5, f6, f7⟩ := arr_facts hI.1 hq hl
  obtain ⟨g1, g2, g3, g4⟩ := el_facts hI.1 hq hl hi0 hi
  have z1 : (mFirst m (ix (mDeep m - 1))).toInt32 = nI q := by rw [d1, e1]; exact lN_i q
  have z2 : (mSecond m (ix (mDeep m - 1))).toInt32 = i := by rw [d1, e2]; exact Int32.toInt32_toInt64 i
  have zin : vp_in (mFirst m (ix (mDeep m - 1))).toInt32 400 := by rw [z1]; exact (thing_facts hI.1 hq).2.2.1
  have ham : hAmAt S.1 (nI q) i = hAm S.1 (ix (hSt S.1 q + i)) := by unfold hAmAt; rw [g1, eq]; rfl
  have hre : hReAt S.1 (nI q) i = hRe S.1 (ix (hSt S.1 q + i)) := by unfold hReAt; rw [g1, eq]; rfl
  have hnumeq : hNums S.1 (nI q) = tIsNum (hTy S.1 q - 16) := by unfold hNums; rw [f2]
  refine Cd.mk cdX8_stepThere 8 4 2 [(0, .ref 0), (1, .int n), (2, .int (pC P (ix n)))] rfl rfl rfl rfl 0 ?_
  refine Ev.go (Cd.mono 12) [102] 100 ?_
  refine And.intro d2 ?_
  refine And.intro d2 ?_
  refine m_placeOf (by decide) _ _ zin ?_
  rw [z1, z2, eq]
  refine And.intro d2 ?_
  refine And.intro zin ?_
  rw [z1, show (nI q).toNatClampNeg = q from eq]
  refine And.intro g2 ?_
  unfold ePlace at hK
  refine And.intro (fun h13 => ?_) (fun h13 => ?_)
  · have h13 : ¬ pC P (ix n) = 13 := h13
    have hc := hc.resolve_left h13
    have h14 : ¬ pC P (ix n) = 14 := fun z => by rcases hc with hc | hc <;> exact absurd (hc.symm.trans z) (by decide)
    rw [decide_eq_false h14, cond_false] at hK
    have haddF : (tIsNum (hTy S.1 q - 16) && !decide (hTy S.1 q - 16 = 0)) = false → KO P d n0 Q k m0 (false, sFail S 9 n) := by
      intro hz
      have hadd : oAdd S n (nI q) = (false, sFail S 9 n) := by
        unfold oAdd
        rw [hnumeq, f2, hz]
        rfl
      rcases hc with hc | hc
      · rw [decide_eq_true hc, cond_true] at hK
        unfold eAdd at hK
        rw [hadd] at hK
        exact hK
      · rw [dne hc (by decide), decide_eq_true hc, cond_false, cond_true] at hK
        unfold oStep at hK
        rw [hadd] at hK
        exact hK
    have hfl : KO P d n0 Q k m0 (false, sFail S 9 n) → Q' none (wM P (sFail S 9 n) m) := fun hK => hQ _ _ (lp_fail nc t hb (fun z => hn25 _ z) (by decide) hK)
    have hrest : tIsNum (hTy S.1 q - 16) = true → ¬ hTy S.1 q - 16 = 0 → Ev (Cd 12) cdX8_stepThere Q' 102 [(0, .ref 0), (1, .int n), (2, .int (pC P (ix n))), (3, .int (mDeep m - 1)), (4, .int (hSt S.1 q + i)), (5, .int (hTy S.1 q - 16)), (6, .long (hAm S.1 (ix (hSt S.1 q + i))))] [] (wM P S m) := by
      intro hnum hz
      have hadd : oAdd S n (nI q) = (true, S) := by
        unfold oAdd
        rw [hnumeq, f2, hnum, decide_eq_false hz]
        rfl
      refine Ev.go (Cd.mono 12) [] 100 ?_
      refine And.intro (fun h15 => ?_) (fun h15 => ?_)
      · have h16 : pC P (ix n) = 16 := hc.resolve_left h15
        rw [dne h16 (by decide), decide_eq_true h16, cond_false, cond_true] at hK
        unfold oStep at hK
        rw [hadd] at hK
        have hK : KO P d n0 Q k m0 (true, (hSum S.1 (nI q) i (hAmAt S.1 (nI q) i) (hReAt S.1 (nI q) i) 1, (sGiveEl S (nI q) i).2)) := hK
        have hum := uMore_sum (h := S.1) (t := nI q) (i := i) (a := hAmAt S.1 (nI q) i) (r := hReAt S.1 (nI q) i) (m := 1) g1 (by rw [f2]; exact hnum)
        rw [eq, f2] at hum
        have hk0 : hKindAt S.1 (nI q) i = 0 := by unfold hKindAt; rw [hnumeq, hnum]; rfl
        unfold sGiveEl at hK
        rw [← hum, hk0, ham, hre] at hK
        have hfk := Inv_fOK nc.go hI (hI.2.2.2.2.2.2.2.2 (ix (hSt S.1 q + i)))
        refine And.intro g2 ?_
        refine And.intro (fun h5 => ?_) (fun h5 => ?_)
        · rw [decide_eq_true (show hTy S.1 q - 16 ≤ 5 from h5), cond_true] at hK
          refine m_more (by decide) nc.f1 nc.fc _ _ _ _ g2 (tIsNum_rng hnum) (fun _ => (hfk _).1) (fun _ => (hfk _).2) ?_
          refine m_number (S := (uMore S.1 (hSt S.1 q + i) (hTy S.1 q - 16) (hRe S.1 (ix (hSt S.1 q + i))) (hAm S.1 (ix (hSt S.1 q + i)) + 1), S.2)) (m := m) (by decide) _ d2 ?_
          exact hQ _ _ (lp_give (S := (uMore S.1 (hSt S.1 q + i) (hTy S.1 q - 16) (hRe S.1 (ix (hSt S.1 q + i))) (hAm S.1 (ix (hSt S.1 q + i)) + 1), S.2)) nc (by exact t) hb rfl hK)
        · rw [decide_eq_false (show ¬ hTy S.1 q - 16 ≤ 5 from h5), cond_false] at hK
          refine m_more (by decide) nc.f1 nc.fc _ _ _ _ g2 (tIsNum_rng hnum) (fun _ => (hfk _).1) (fun _ => (hfk _).2) ?_
          refine m_number (S := (uMore S.1 (hSt S.1 q + i) (hTy S.1 q - 16) (hRe S.1 (ix (hSt S.1 q + i))) 1, S.2)) (m := m) (by decide) _ d2 ?_
          exact hQ _ _ (lp_give (S := (uMore S.1 (hSt S.1 q + i) (hTy S.1 q - 16) (hRe S.1 (ix (hSt S.1 q + i))) 1, S.2)) nc (by exact t) hb rfl hK)
      · have h15 : pC P (ix n) = 15 := h15
        obtain ⟨kc1, kc2⟩ := hkc h15
        rw [decide_eq_true h15, cond_true] at hK
        unfold eAdd at hK
        rw [hadd] at hK
        have hK : KO P d n0 Q k m0 (oAnd (E (pc' P (ix n)) S) (fun S2 => oAnd (oNum S2 n) (fun S2 => (true, sGiveEl (hSum S2.1 (nI q) i (hAmAt S.1 (nI q) i) (hReAt S.1 (nI q) i) (rA S2.2.2), S2.2) (nI q) i)))) := hK
        refine And.intro d2 ?_
        refine And.intro g2 ?_
        refine And.intro d2 ?_
        refine And.intro hn ?_
        refine m_next (m := mSetTR m (ix (mDeep m - 1)) (hAm S.1 (ix (hSt S.1 q + i))) (hRe S.1 (ix (hSt S.1 q + i)))) (by decide) _ (pIsNode_in nc.wf.1 kc1) (t.deepin nc.k90) d2 ?_
        refine hQ _ _ ?_
        rw [d1]
        have ex0 := nc.ex _ kc1 kc2 κ S hI hF
        refine lp_next nc (t.setTR _ _) hI hF kc1 kc2 (HB_kid kc2 (by rw [hb]; exact hH)) hb (fun z => hn25 _ z) hK ?_
        intro hx hK1 hI1 hF1 hV1 hvh1 m1 t1 hkp1 hR1
        obtain ⟨i1, i2, i3, i4, i5, i6⟩ := ex0
        generalize (E (pc' P (ix n)) S).2 = S1 at *
        have ka := hKeep_arr i5 hI.1.1 f1
        refine sim_15_end (q := q) (i := i) (a := hAmAt S.1 (nI q) i) (r := hReAt S.1 (nI q) i) nc hI1 hF1 (by exact t1) hvh1 hR1 h15 (Int.lt_of_lt_of_le hq i5.1) (by rw [(i5.2 q hq).2.2]; exact hl) hi0 (by rw [(i5.2 q hq).2.2]; exact hi) ?_ (hkp1.2.2.1.trans e1) (hkp1.2.2.2.1.trans e2) ?_ ?_ ?_ hK1
        · unfold hNums
          rw [ka.2.2, f2]
          exact hnum
        · rw [hkp1.2.2.2.2.1, ham]
          exact x_up_self _ _ _
        · rw [hkp1.2.2.2.2.2.2, hre]
          exact x_up_self _ _ _
        · rw [hre]
          exact nc.go.2.2.1 _ _ _ (hI.2.2.2.2.2.2.2.2 _) (by omega)
    refine And.intro (fun h0 => ?_) (fun h0 => ?_)
    · refine m_fail (by decide) _ _ ?_
      refine hfl (haddF ?_)
      rw [decide_eq_true (show hTy S.1 q - 16 = 0 from h0)]
      simp
    · refine m_isNumbers (by decide) _ ?_
      rw [tIsNum_8 f3]
      refine And.intro (fun hz => ?_) (fun hz => ?_)
      · rw [bI_ne0] at hz
        exact hrest hz h0
      · rw [bI_eq0] at hz
        refine m_fail (by decide) _ _ ?_
        refine hfl (haddF ?_)
        rw [hz]
        rfl
  · have h13 : pC P (ix n) = 13 := h13
    rw [dne h13 (by decide), dne h13 (by decide), dne h13 (by decide), cond_false, cond_false, cond_false] at hK
    unfold sGiveEl at hK
    rw [ham] at hK
    have hkind : ∀ z : Bool, tIsNum (hTy S.1 q - 16) = z → bI (!z) = bI (!decide (hKindAt S.1 (nI q) i = 0)) := by
      intro z hz
      rw [bI_inj]
      unfold hKindAt
      rw [hnumeq, hz]
      cases z
      · show true = !decide ((bif decide (hAmAt S.1 (nI q) i = -1) then (1 : Int32) else 2) = 0)
        cases decide (hAmAt S.1 (nI q) i = -1) <;> rfl
      · rfl
    refine m_isNumbers (by decide) _ ?_
    rw [tIsNum_8 f3]
    refine And.intro (fun hz => ?_) (fun hz => ?_)
    · rw [bI_ne0] at hz
      refine m_give (by decide) _ _ (Or.inl rfl) d2 ?_
      exact hQ _ _ (lp_give nc t hb (hkind true hz) hK)
    · rw [bI_eq0] at hz
      refine m_give (by decide) _ _ (Or.inr rfl) d2 ?_
      exact hQ _ _ (lp_give nc t hb (hkind false hz) hK)
end SIMK
