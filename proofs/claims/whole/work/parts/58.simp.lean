/-! MAKE, whole -/
theorem neg64 (v : Int32) : decide (v.toInt64 < 0) = decide (v < 0) := decide_eq_decide.mpr (lt64 (b := 0))
theorem hMAs_F {h : SH} {t f s u : Int32} (hr : hRoom h f s u = false) : hMAs h t f s u = (-1, h) := by
  unfold hMAs
  rw [hr]
  rfl
theorem bool_iff {a : Bool} {p : Prop} (h : a = true ↔ p) : (a = false ↔ ¬ p) := by
  cases a
  · exact ⟨(fun _ q => absurd (h.mpr q) (by decide)), fun _ => rfl⟩
  · exact ⟨(fun q => by cases q), fun q => absurd (h.mp rfl) q⟩
section SIMO
variable {P : SP} {G : Int → UInt64 → Prop} {E : Int32 → SS → SO} {d : Nat} {n0 : Int32} {Q : xQ} {k : Nat} {m0 : MS} {n : Int32}
theorem oMake_4 {n f s u : Int32} {S : SS} : oMake P n f s u true S = (false, sFail S 4 n) := rfl
theorem oMake_6 {n f s u : Int32} {S : SS} (hr : hRoom S.1 f s u = false) : oMake P n f s u false S = (false, sFail S 6 n) := by
  unfold oMake
  rw [hMAs_F hr]
  rfl
theorem oMake_T {n f s u : Int32} {S : SS} {h' : SH} (h0 : 0 ≤ (hTh S.1).toInt) (hr : hMAs S.1 (pa P (ix n)) f s u = (hTh S.1, h')) : oMake P n f s u false S = (true, sGive (h', S.2) 2 (hTh S.1).toInt64) := by
  unfold oMake oMade
  rw [hr]
  simp only [decide_eq_false (hTh_ne h0), cond_false]
set_option maxRecDepth 100000 in
set_option maxHeartbeats 1000000 in
theorem mk_fin1 {κ : Int} {S : SS} {m : MS} {b s q v1 : Int32} (nc : NC P G E d n0 Q k m0 n) (hI : Inv G κ S) (t : TOP k m0 n s b S m) (hb : vH S.2.1 = b) (hc : pC P (ix n) = 9) (ht : tIsArr (pa P (ix n)) = true) (hz : (1 : Int32) ≤ s) (e1 : mFirst m k = v1.toInt64) (hK : KO P d n0 Q k m0 (oMake P n v1 (-1) (-1) (decide (v1 < 0)) S)) (Q' : xQ) (hQ : ∀ S' m', Lp P d n0 Q S' m' → Q' none (wM P S' m')) : Ev (Cd 14) cdX8_stepMake Q' 127 [(0, .ref 0), (1, .int n), (2, .int s), (3, .int (mDeep m - 1)), (4, .int q), (5, .int 1)] [] (wM P S m) := by
  have hn := nc.nin
  have hn25 : ∀ s : Int32, pC P (ix n) = 25 → s ≠ 1 := fun s z => absurd (hc.symm.trans z) (by decide)
  obtain ⟨d1, d2⟩ := t.d1 nc.k90
  have hh := hI.1.1
  refine mk_127 hz d2 ?_
  rw [decide_eq_true (show (1 : Int32) ≤ 1 by decide), decide_eq_true (show (1 : Int32) ≤ 2 by decide), d1, e1]
  simp only [cond_true]
  have en : (decide (v1.toInt64 < 0) || (decide ((0 : Int64) < 0) || decide ((0 : Int64) < 0))) = decide (v1 < 0) := by
    rw [neg64, decide_eq_false (show ¬ (0 : Int64) < 0 by decide)]
    simp
  refine mk_215 (by decide) ?_ ?_
  · intro hneg
    rw [en] at hneg
    rw [hneg, oMake_4] at hK
    exact hQ _ _ (lp_fail nc t hb (fun z => hn25 _ z) (by decide) hK)
  · intro hneg
    rw [en] at hneg
    rw [hneg] at hK
    obtain ⟨X, hX, rfl⟩ := nI_of (decide_eq_false_iff_not.mp hneg)
    rw [nI_l hX]
    have hfi := uFit_iff (z := 1) hh hX (Y := 0) (Z := 0) (by decide) (by decide)
    simp only [decide_eq_true (show (1 : Int32) ≤ 1 by decide), decide_eq_true (show (1 : Int32) ≤ 2 by decide), cond_true, Nat.mul_zero, Nat.zero_mul, Nat.add_zero] at hfi
    have hri := hRoom_1 hh hX
    refine mk_243 (by decide) ?_ ?_
    · intro hf
      have hf : uFit S.1 1 (lN X) (lN 0) (lN 0) = false := hf
      rw [bool_iff hfi] at hf
      rw [oMake_6 ((bool_iff hri).mpr hf)] at hK
      exact hQ _ _ (lp_fail nc t hb (fun z => hn25 _ z) (by decide) hK)
    · intro hf a12 a13 a15 a17
      have hf : uFit S.1 1 (lN X) (lN 0) (lN 0) = true := hf
      have hr := hfi.mp hf
      rw [oMake_T hh.1 (hMAs_1 hI.1 ht hX hr)] at hK
      refine mk_371a (by decide) hn hr d2 ?_
      exact hQ _ _ (lp_give (S := (uMk S.1 (pa P (ix n)) (nI X), S.2)) (kk := 2) nc (by exact t) hb rfl hK)
set_option maxRecDepth 100000 in
set_option maxHeartbeats 1000000 in
theorem mk_fin2 {κ : Int} {S : SS} {m : MS} {b s q v1 v2 : Int32} (nc : NC P G E d n0 Q k m0 n) (hI : Inv G κ S) (t : TOP k m0 n s b S m) (hb : vH S.2.1 = b) (hc : pC P (ix n) = 9) (ht : tIsArr (pa P (ix n)) = true) (ht1 : tIsArr (pa P (ix n) - 16) = true) (hz : (2 : Int32) ≤ s) (e1 : mFirst m k = v1.toInt64) (e2 : mSecond m k = v2.toInt64) (hK : KO P d n0 Q k m0 (oMake P n v1 v2 (-1) (decide (v1 < 0) || decide (v2 < 0)) S)) (Q' : xQ) (hQ : ∀ S' m', Lp P d n0 Q S' m' → Q' none (wM P S' m')) : Ev (Cd 14) cdX8_stepMake Q' 127 [(0, .ref 0), (1, .int n), (2, .int s), (3, .int (mDeep m - 1)), (4, .int q), (5, .int 2)] [] (wM P S m) := by
  have hn := nc.nin
  have hn25 : ∀ s : Int32, pC P (ix n) = 25 → s ≠ 1 := fun s z => absurd (hc.symm.trans z) (by decide)
  obtain ⟨d1, d2⟩ := t.d1 nc.k90
  have hh := hI.1.1
  refine mk_127 hz d2 ?_
  rw [decide_eq_false (show ¬ (2 : Int32) ≤ 1 by decide), decide_eq_true (show (2 : Int32) ≤ 2 by decide), d1, e1, e2]
  simp only [cond_true, cond_false]
  have en : (decide (v1.toInt64 < 0) || (decide (v2.toInt64 < 0) || decide ((0 : Int64) < 0))) = (decide (v1 < 0) || decide (v2 < 0)) := by
    rw [neg64, neg64, decide_eq_false (show ¬ (0 : Int64) < 0 by decide)]
    simp
  refine mk_215 (by decide) ?_ ?_
  · intro hneg
    rw [en] at hneg
    rw [hneg, oMake_4] at hK
    exact hQ _ _ (lp_fail nc t hb (fun z => hn25 _ z) (by decide) hK)
  · intro hneg
    rw [en] at hneg
    rw [hneg] at hK
    obtain ⟨g1, g2⟩ := Bool.or_eq_false_iff.mp hneg
    obtain ⟨X, hX, rfl⟩ := nI_of (decide_eq_false_iff_not.mp g1)
    obtain ⟨Y, hY, rfl⟩ := nI_of (decide_eq_false_iff_not.mp g2)
    rw [nI_l hX, nI_l hY]
    have hfi := uFit_iff (z := 2) hh hX hY (Z := 0) (by decide)
    simp only [decide_eq_false (show ¬ (2 : Int32) ≤ 1 by decide), decide_eq_true (show (2 : Int32) ≤ 2 by decide), cond_true, cond_false, Nat.mul_zero, Nat.zero_mul, Nat.add_zero] at hfi
    have hri := hRoom_2 hh hX hY
    refine mk_243 (by decide) ?_ ?_
    · intro hf
      have hf : uFit S.1 2 (lN X) (lN Y) (lN 0) = false := hf
      rw [bool_iff hfi] at hf
      rw [oMake_6 ((bool_iff hri).mpr hf)] at hK
      exact hQ _ _ (lp_fail nc t hb (fun z => hn25 _ z) (by decide) hK)
    · intro hf a12 a13 a15 a17
      have hf : uFit S.1 2 (lN X) (lN Y) (lN 0) = true := hf
      have hr := hfi.mp hf
      have eN : nI 4294967295 = -1 := rfl
      have hr2 : RO S.1 (1 + X * 1) (X + X * Y) := by rw [Nat.mul_one]; exact hr
      have hM := hMAs_2 hI.1 ht ht1 (Or.inl rfl) (u := -1) (Z := 4294967295) (A := 1) (B := Y) hX hY (fun z => absurd rfl z) rfl rfl (hri.mpr hr) hr2
      rw [oMake_T hh.1 hM, show (!decide ((-1 : Int32) = -1)) = false from rfl] at hK
      refine mk_371b (by decide) hn X Y 4294967295 false rfl (fun z => by cases z) hX hY (A := 1) (B := Y) rfl rfl hr2 d2 ?_
      rw [eN]
      exact hQ _ _ (lp_give (S := (uOut (uMk S.1 (pa P (ix n)) (nI X)) (pa P (ix n)) (nI Y) (-1) false (ix (hEl S.1)) X, S.2)) (kk := 2) nc (by exact t) hb rfl hK)
set_option maxRecDepth 100000 in
set_option maxHeartbeats 1000000 in
theorem mk_fin3 {κ : Int} {S : SS} {m : MS} {b s q v1 v2 v3 : Int32} (nc : NC P G E d n0 Q k m0 n) (hI : Inv G κ S) (t : TOP k m0 n s b S m) (hb : vH S.2.1 = b) (hc : pC P (ix n) = 9) (ht : tIsArr (pa P (ix n)) = true) (ht1 : tIsArr (pa P (ix n) - 16) = true) (ht2 : tIsArr (pa P (ix n) - 16 - 16) = true) (hz : (3 : Int32) ≤ s) (e1 : mFirst m k = v1.toInt64) (e2 : mSecond m k = v2.toInt64) (e3 : mThird m k = v3.toInt64) (hK : KO P d n0 Q k m0 (oMake P n v1 v2 v3 ((decide (v1 < 0) || decide (v2 < 0)) || decide (v3 < 0)) S)) (Q' : xQ) (hQ : ∀ S' m', Lp P d n0 Q S' m' → Q' none (wM P S' m')) : Ev (Cd 14) cdX8_stepMake Q' 127 [(0, .ref 0), (1, .int n), (2, .int s), (3, .int (mDeep m - 1)), (4, .int q), (5, .int 3)] [] (wM P S m) := by
  have hn := nc.nin
  have hn25 : ∀ s : Int32, pC P (ix n) = 25 → s ≠ 1 := fun s z => absurd (hc.symm.trans z) (by decide)
  obtain ⟨d1, d2⟩ := t.d1 nc.k90
  have hh := hI.1.1
  refine mk_127 hz d2 ?_
  rw [decide_eq_false (show ¬ (3 : Int32) ≤ 1 by decide), decide_eq_false (show ¬ (3 : Int32) ≤ 2 by decide), d1, e1, e2, e3]
  simp only [cond_false]
  have en : (decide (v1.toInt64 < 0) || (decide (v2.toInt64 < 0) || decide (v3.toInt64 < 0))) = ((decide (v1 < 0) || decide (v2 < 0)) || decide (v3 < 0)) := by
    rw [neg64, neg64, neg64, Bool.or_assoc]
  refine mk_215 (by decide) ?_ ?_
  · intro hneg
    rw [en] at hneg
    rw [hneg, oMake_4] at hK
    exact hQ _ _ (lp_fail nc t hb (fun z => hn25 _ z) (by decide) hK)
  · intro hneg
    rw [en] at hneg
    rw [hneg] at hK
    obtain ⟨g12, g3⟩ := Bool.or_eq_false_iff.mp hneg
    obtain ⟨g1, g2⟩ := Bool.or_eq_false_iff.mp g12
    obtain ⟨X, hX, rfl⟩ := nI_of (decide_eq_false_iff_not.mp g1)
    obtain ⟨Y, hY, rfl⟩ := nI_of (decide_eq_false_iff_not.mp g2)
    obtain ⟨Z, hZ, rfl⟩ := nI_of (decide_eq_false_iff_not.mp g3)
    rw [nI_l hX, nI_l hY, nI_l hZ]
    have hfi := uFit_iff (z := 3) hh hX hY hZ
    simp only [decide_eq_false (show ¬ (3 : Int32) ≤ 1 by decide), decide_eq_false (show ¬ (3 : Int32) ≤ 2 by decide), cond_false] at hfi
    have hri := hRoom_3 hh hX hY hZ
    refine mk_243 (by decide) ?_ ?_
    · intro hf
      rw [bool_iff hfi] at hf
      rw [oMake_6 ((bool_iff hri).mpr hf)] at hK
      exact hQ _ _ (lp_fail nc t hb (fun z => hn25 _ z) (by decide) hK)
    · intro hf a12 a13 a15 a17
      have hr := hfi.mp hf
      have hne : ¬ nI Z = -1 := nI_ne rfl hZ
      have hr2 : RO S.1 (1 + X * (1 + Y)) (X + X * (Y + Y * Z)) := by
        have m1 : X * (1 + Y) = X + X * Y := by rw [Nat.mul_add, Nat.mul_one]
        have m2 : X * (Y + Y * Z) = X * Y + X * Y * Z := by rw [Nat.mul_add, Nat.mul_assoc]
        rw [m1, m2, ← Nat.add_assoc, ← Nat.add_assoc]
        exact hr
      have hM := hMAs_2 hI.1 ht ht1 (Or.inr ht2) (u := nI Z) (Z := Z) (A := 1 + Y) (B := Y + Y * Z) hX hY (fun _ => rfl) (by rw [decide_eq_false hne]; rfl) (by rw [decide_eq_false hne]; rfl) (hri.mpr hr) hr2
      rw [oMake_T hh.1 hM, show (!decide (nI Z = -1)) = true by rw [decide_eq_false hne]; rfl] at hK
      refine mk_371b (by decide) hn X Y Z true rfl (fun _ => rfl) hX hY (A := 1 + Y) (B := Y + Y * Z) rfl rfl hr2 d2 ?_
      exact hQ _ _ (lp_give (S := (uOut (uMk S.1 (pa P (ix n)) (nI X)) (pa P (ix n)) (nI Y) (nI Z) true (ix (hEl S.1)) X, S.2)) (kk := 2) nc (by exact t) hb rfl hK)
/-! a size came -/
set_option maxRecDepth 100000 in
set_option maxHeartbeats 1000000 in
theorem mk_in {S : SS} {m : MS} {b s : Int32} {f : SS → SO} (nc : NC P G E d n0 Q k m0 n) (hF : rF S.2.2 = 0) (t : TOP k m0 n s b S m) (hb : vH S.2.1 = b) (hR : RES S m) (hs : s = 1 ∨ s = 2 ∨ s = 3) (hc : pC P (ix n) = 9) (hK : KO P d n0 Q k m0 (oAnd (oNum S n) f)) (h : KO P d n0 Q k m0 (f S) → ∀ Q' : xQ, (∀ S' m', Lp P d n0 Q S' m' → Q' none (wM P S' m')) → Ev (Cd 14) cdX8_stepMake Q' 127 [(0, .ref 0), (1, .int n), (2, .int s), (3, .int (mDeep m - 1)), (4, .int (mCame m).toInt32), (5, .int (mSz P n))] [] (wM P S (mSet3 m (ix (mDeep m - 1)) (bif decide (s = 1) then (mCame m).toInt32.toInt64 else mFirst m (ix (mDeep m - 1))) (bif decide (s = 2) then (mCame m).toInt32.toInt64 else mSecond m (ix (mDeep m - 1))) (bif decide (s = 3) then (mCame m).toInt32.toInt64 else mThird m (ix (mDeep m - 1)))))) : Lp P d n0 Q S m := by
  have hn := nc.nin
  have hn25 : ∀ s : Int32, pC P (ix n) = 25 → s ≠ 1 := fun s z => absurd (hc.symm.trans z) (by decide)
  obtain ⟨d1, d2⟩ := t.d1 nc.k90
  have hs0 : ¬ s ≤ 0 := by rcases hs with rfl | rfl | rfl <;> decide
  refine lp_step9 nc t hF hc (fun Q' hQ => ?_)
  refine Cd.mk cdX8_stepMake 23 4 2 [(0, .ref 0), (1, .int n), (2, .int s)] rfl rfl rfl rfl 0 ?_
  refine Ev.go (Cd.mono 14) [20] 100 ?_
  refine And.intro (fun z => absurd z hs0) (fun _ => ?_)
  by_cases hz : rK S.2.2 = 0
  · refine m_wnumT (by decide) n hR hz ?_
    refine And.intro (fun _ => ?_) (fun z => absurd z ne10)
    rw [oNum_T hz] at hK
    refine mk_20 d2 (Or.inr hs) ?_
    refine mk_96 hn ?_
    exact h hK Q' hQ
  · refine m_wnumF (by decide) n hR hz ?_
    refine And.intro (fun z => absurd rfl z) (fun _ => ?_)
    rw [oNum_F hz] at hK
    exact hQ _ _ (lp_fail nc t hb (fun z => hn25 _ z) (by decide) hK)
set_option maxRecDepth 100000 in
set_option maxHeartbeats 1000000 in
theorem sim_9 {κ : Int} {S : SS} {m : MS} (nc : NC P G E d n0 Q k m0 n) (hI : Inv G κ S) (hF : rF S.2.2 = 0) (hH : (vH S.2.1).toInt ≤ HB P n) (t : TOP k m0 n 0 (vH S.2.1) S m) (hc : pC P (ix n) = 9) (hK : KO P d n0 Q k m0 (eMake P E n S)) : Lp P d n0 Q S m := by
  have hfit := pFit nc.wf nc.nd
  rw [hc] at hfit
  obtain ⟨ht, hsz⟩ := Bool.and_eq_true_iff.mp (show (tIsArr (pa P (ix n)) && pSizes (pPre P (ix n)) (pa P (ix n) / 16) (pb P (ix n)) (pc' P (ix n)) (pd P (ix n))) = true from hfit)
  obtain ⟨dm1, dm2, dm3⟩ := pSizes_dims ht hsz
  unfold pSizes at hsz
  obtain ⟨hs1, hs2⟩ := Bool.and_eq_true_iff.mp hsz
  have hk1 := pKid nc.nd hs1
  have hkc : ¬ pc' P (ix n) = -1 → pIsNode P (pc' P (ix n)) = true ∧ (pc' P (ix n)).toInt < n.toInt := by
    intro z
    rw [decide_eq_false z, cond_false] at hs2
    exact pKid nc.nd (Bool.and_eq_true_iff.mp (Bool.and_eq_true_iff.mp hs2).2).1
  have hkd : ¬ pc' P (ix n) = -1 → ¬ pd P (ix n) = -1 → pIsNode P (pd P (ix n)) = true ∧ (pd P (ix n)).toInt < n.toInt := by
    intro z z2
    rw [decide_eq_false z, cond_false] at hs2
    have := (Bool.and_eq_true_iff.mp (Bool.and_eq_true_iff.mp hs2).2).2
    rw [decide_eq_false z2, Bool.false_or] at this
    exact pKid nc.nd (Bool.and_eq_true_iff.mp this).2
  have hn := nc.nin
  have hn25 : ∀ s : Int32, pC P (ix n) = 25 → s ≠ 1 := fun s z => absurd (hc.symm.trans z) (by decide)
  unfold eMake at hK
  obtain ⟨d1, d2⟩ := t.d1 nc.k90
  refine lp_step9 nc t hF hc (fun Q' hQ => ?_)
  refine Cd.mk cdX8_stepMake 23 4 2 [(0, .ref 0), (1, .int n), (2, .int 0)] rfl rfl rfl rfl 0 ?_
  refine Ev.go (Cd.mono 14) [20] 100 ?_
  refine And.intro (fun _ => ?_) (fun z => absurd (Int32.le_refl _) z)
  refine mk_20 d2 (Or.inl rfl) ?_
  refine mk_96 hn ?_
  have hz0 : ¬ mSz P n ≤ 0 := by
    unfold mSz
    cases decide (pc' P (ix n) = -1) <;> cases decide (pd P (ix n) = -1) <;> decide
  refine mk_next (by decide) hn hz0 (Or.inl ⟨rfl, rfl⟩) (pIsNode_in nc.wf.1 hk1.1) (t.deepin nc.k90) d2 ?_
  refine hQ _ _ ?_
  rw [d1]
  refine lp_next nc (t.set3 _ _ _) hI hF hk1.1 hk1.2 (HB_kid hk1.2 hH) rfl (fun z => hn25 _ z) hK ?_
  intro hx hK hI hF hV hvh m1 t1 hkp hR
  generalize (E (pb P (ix n)) S).2 = S1 at *
  generalize vH S.2.1 = b at *
  clear t hkp
  refine mk_in nc hF t1 hvh hR (Or.inl rfl) hc hK ?_
  intro hK Q' hQ
  obtain ⟨y1, y2⟩ := t1.d1 nc.k90
  rw [y1]
  have t1' : TOP k m0 n 1 b S1 (mSet3 m1 k (mCame m1).toInt32.toInt64 (mSecond m1 k) (mThird m1 k)) := t1.set3 _ _ _
  have f1 : mFirst (mSet3 m1 k (mCame m1).toInt32.toInt64 (mSecond m1 k) (mThird m1 k)) k = (rA S1.2.2).toInt32.toInt64 := by
    show x_up (mFirst m1) k (mCame m1).toInt32.toInt64 k = _
    rw [x_up_self, hR.2]
  unfold eMake1 at hK
  by_cases c1 : pc' P (ix n) = -1
  · have c2 := dm3 c1
    rw [decide_eq_true c1, cond_true] at hK
    unfold eMake2 at hK
    rw [decide_eq_true c2, cond_true] at hK
    have ez : mSz P n = 1 := by unfold mSz; rw [decide_eq_true c1]; rfl
    rw [ez]
    exact mk_fin1 nc hI t1' hvh hc ht (by decide) f1 hK Q' hQ
  · rw [decide_eq_false c1, cond_false] at hK
    obtain ⟨kc1, kc2⟩ := hkc c1
    have hz1 : ¬ mSz P n ≤ 1 := by
      unfold mSz
      rw [decide_eq_false c1]
      cases decide (pd P (ix n) = -1) <;> decide
    refine mk_next (by decide) hn hz1 (Or.inr (Or.inl ⟨rfl, rfl⟩)) (pIsNode_in nc.wf.1 kc1) (t1.deepin nc.k90) y2 ?_
    refine hQ _ _ ?_
    refine lp_next nc t1' hI hF kc1 kc2 (HB_kid kc2 (by rw [hvh]; exact hH)) hvh (fun z => hn25 _ z) hK ?_
    intro hx2 hK hI hF hV2 hvh2 m2 t2 hkp2 hR2
    have g1 : mFirst m2 k = (rA S1.2.2).toInt32.toInt64 := hkp2.2.2.1.trans f1
    generalize (rA S1.2.2).toInt32 = v1 at *
    generalize (E (pc' P (ix n)) S1).2 = S2 at *
    refine mk_in nc hF t2 hvh2 hR2 (Or.inr (Or.inl rfl)) hc hK ?_
    intro hK Q' hQ
    obtain ⟨z1, z2⟩ := t2.d1 nc.k90
    rw [z1]
    have t2' : TOP k m0 n 2 b S2 (mSet3 m2 k (mFirst m2 k) (mCame m2).toInt32.toInt64 (mThird m2 k)) := t2.set3 _ _ _
    have g1' : mFirst (mSet3 m2 k (mFirst m2 k) (mCame m2).toInt32.toInt64 (mThird m2 k)) k = v1.toInt64 := by
      show x_up (mFirst m2) k (mFirst m2 k) k = _
      rw [x_up_self]; exact g1
    have g2' : mSecond (mSet3 m2 k (mFirst m2 k) (mCame m2).toInt32.toInt64 (mThird m2 k)) k = (rA S2.2.2).toInt32.toInt64 := by
      show x_up (mSecond m2) k (mCame m2).toInt32.toInt64 k = _
      rw [x_up_self, hR2.2]
    have ht1 := dm1.resolve_left c1
    unfold eMake2 at hK
    by_cases c2 : pd P (ix n) = -1
    · rw [decide_eq_true c2, cond_true] at hK
      have ez : mSz P n = 2 := by unfold mSz; rw [decide_eq_false c1, decide_eq_true c2]; rfl
      rw [ez]
      exact mk_fin2 nc hI t2' hvh2 hc ht ht1 (by decide) g1' g2' hK Q' hQ
    · rw [decide_eq_false c2, cond_false] at hK
      obtain ⟨kd1, kd2⟩ := hkd c1 c2
      have ez : mSz P n = 3 := by unfold mSz; rw [decide_eq_false c1, decide_eq_false c2]; rfl
      rw [ez]
      refine mk_next (by decide) hn (by decide) (Or.inr (Or.inr ⟨rfl, rfl⟩)) (pIsNode_in nc.wf.1 kd1) (t2.deepin nc.k90) z2 ?_
      refine hQ _ _ ?_
      refine lp_next nc t2' hI hF kd1 kd2 (HB_kid kd2 (by rw [hvh2]; exact hH)) hvh2 (fun z => hn25 _ z) hK ?_
      intro hx3 hK hI hF hV3 hvh3 m3 t3 hkp3 hR3
      have h1 : mFirst m3 k = v1.toInt64 := hkp3.2.2.1.trans g1'
      have h2 : mSecond m3 k = (rA S2.2.2).toInt32.toInt64 := hkp3.2.2.2.1.trans g2'
      generalize (rA S2.2.2).toInt32 = v2 at *
      generalize (E (pd P (ix n)) S2).2 = S3 at *
      refine mk_in nc hF t3 hvh3 hR3 (Or.inr (Or.inr rfl)) hc hK ?_
      intro hK Q' hQ
      obtain ⟨w1, w2⟩ := t3.d1 nc.k90
      rw [w1, ez]
      have h3' : mThird (mSet3 m3 k (mFirst m3 k) (mSecond m3 k) (mCame m3).toInt32.toInt64) k = (rA S3.2.2).toInt32.toInt64 := by
        show x_up (mThird m3) k (mCame m3).toInt32.toInt64 k = _
        rw [x_up_self, hR3.2]
      exact mk_fin3 nc hI (t3.set3 _ _ _) hvh3 hc ht ht1 (dm2.resolve_left c2) (by decide) (by show x_up (mFirst m3) k (mFirst m3 k) k = _; rw [x_up_self]; exact h1) (by show x_up (mSecond m3) k (mSecond m3 k) k = _; rw [x_up_self]; exact h2) h3' hK Q' hQ
end SIMO
