/-! loops over arrays -/
section SIMJ
variable {P : SP} {G : Int → UInt64 → Prop} {E : Int32 → SS → SO} {d : Nat} {n0 : Int32} {Q : xQ} {k : Nat} {m0 : MS} {n : Int32}
theorem lp_enter {s b c : Int32} {κ : Int} {S : SS} {m : MS} {f : SS → SO} (nc : NC P G E d n0 Q k m0 n) (t : TOP k m0 n s b S m) (hI : Inv G κ S) (hF : rF S.2.2 = 0) (hcn : pIsNode P c = true) (hc : c.toInt < n.toInt) (hH : (vH S.2.1).toInt ≤ HB P c) (hb : vH S.2.1 = b) (hs : pC P (ix n) = 25 → s ≠ 1) (hK : KO P d n0 Q k m0 (oAnd (E c S) f))
    (h : (E c S).1 = true → KO P d n0 Q k m0 (f (E c S).2) → Inv G κ (E c S).2 → rF (E c S).2.2.2 = 0 → vH (E c S).2.2.1 = b → ∀ m', TOP k m0 n s b (E c S).2 m' → KP k m m' → Lp P d n0 Q (E c S).2 m') : Lp P d n0 Q (mEnter P S m c).1 (mEnter P S m c).2 := by
  obtain ⟨i1, i2, i3, i4, i5⟩ := nc.ex c hcn hc κ S hI hF
  have hd := nc.deep
  refine nc.sx c hcn hc κ S (k + 1) m hI hF (by have := nc.kn; omega) hH t.1 t.2.1 ?_
  intro m' hD hR
  have hrow : mRow m' k = mRow m k := hD.2.2 k (Nat.lt_succ_self k)
  have hT : TOP k m0 n s b (E c S).2 m' := by
    refine ⟨hD.1, hD.2.1, t.2.2.1.trans (hD.2.2.less (by omega)), ?_, ?_, ?_⟩
    · have : mAt m' k = mAt m k := congrArg (fun r : MRw => r.1) hrow
      rw [this]; exact t.2.2.2.1
    · have : mStage m' k = mStage m k := congrArg (fun r : MRw => r.2.1) hrow
      rw [this]; exact t.2.2.2.2.1
    · have : mBase m' k = mBase m k := congrArg (fun r : MRw => r.2.2.2.2.2.2.2.2.2) hrow
      rw [this]; exact t.2.2.2.2.2
  cases hx : (E c S).1
  · rw [oAnd_f hx] at hK
    refine lp_fall (b := b) (s := s) (n := n) (m0 := m0) (k := k) (by omega) hT nc.nin nc.k90 (i3 hx) hs ?_
    intro m'' hm''
    have e : sHeld (E c S).2 b = (E c S).2 := sHeld_same (i4.trans hb)
    rw [e] at hm'' ⊢
    exact hK m'' hm'' (fun z => by rw [hx] at z; cases z)
  · rw [oAnd_t hx] at hK
    refine h hx hK i1 (i2 hx).1 (i4.trans hb) m' hT ?_
    exact ⟨congrArg (fun r : MRw => r.2.2.1) hrow, congrArg (fun r : MRw => r.2.2.2.1) hrow, congrArg (fun r : MRw => r.2.2.2.2.1) hrow, congrArg (fun r : MRw => r.2.2.2.2.2.1) hrow, congrArg (fun r : MRw => r.2.2.2.2.2.2.1) hrow, congrArg (fun r : MRw => r.2.2.2.2.2.2.2.1) hrow, congrArg (fun r : MRw => r.2.2.2.2.2.2.2.2.1) hrow⟩
def EAch (P : SP) (G : Int → UInt64 → Prop) (E : Int32 → SS → SO) (d : Nat) (n0 : Int32) (Q : xQ) (k : Nat) (m0 : MS) (n : Int32) (L q : Nat) (b : Int32) (κ : Int) (j i : Nat) (S : SS) (m : MS) : Prop :=
  i + j = L ∧ TOP k m0 n 2 b S m ∧ Inv G κ S ∧ rF S.2.2 = 0 ∧ vH S.2.1 = b ∧ mIndex m k = nI i ∧ mFirst m k = lN q ∧ (q : Int) < (hTh S.1).toInt ∧ hLe S.1 q = nI L ∧ KO P d n0 Q k m0 (eEachL P E n (nI q) (nI L) j i S)
set_option maxRecDepth 100000 in
set_option maxHeartbeats 1000000 in
theorem each_at (nc : NC P G E d n0 Q k m0 n) (hc : pC P (ix n) = 21) {L q : Nat} {b : Int32} {κ : Int} (hL4 : L ≤ 4000) (hv : isVar (pb P (ix n)) = true) (hkc : pIsNode P (pc' P (ix n)) = true) (hkl : (pc' P (ix n)).toInt < n.toInt) (hH : b.toInt ≤ HB P n) : ∀ (j i : Nat) (S : SS) (m : MS), EAch P G E d n0 Q k m0 n L q b κ j i S m → ∀ Q' : xQ, (∀ S' m', Lp P d n0 Q S' m' → Q' none (wM P S' m')) → ∀ (s : Int32), Ev (Cd 14) cdX8_stepEach Q' 69 [(0, .ref 0), (1, .int n), (2, .int s), (3, .int (mDeep m - 1))] [] (wM P S m)
  | 0, i, S, m, ⟨hi, t, hI, hF, hb, hix, hfi, hq, hle, hK⟩, Q', hQ, s => by
    obtain ⟨e1, e2⟩ := t.d1 nc.k90
    have hi : i = L := by omega
    subst hi
    have h400 := hI.1.1.2.1
    have eix : mIndex m (ix (mDeep m - 1)) = nI i := by rw [e1]; exact hix
    have efi : mFirst m (ix (mDeep m - 1)) = lN q := by rw [e1]; exact hfi
    have zT : (mFirst m (ix (mDeep m - 1))).toInt32 = nI q := by rw [efi]; exact lN_i q
    have zin : vp_in (mFirst m (ix (mDeep m - 1))).toInt32 400 := by rw [zT]; exact vp_in_nI (by omega) (by omega)
    have zle : hLe S.1 (ix (mFirst m (ix (mDeep m - 1))).toInt32) = nI i := by rw [zT, ix_nI (by omega)]; exact hle
    have hend : Lp P d n0 Q (mGive S m 0 (nI i).toInt64).1 (mGive S m 0 (nI i).toInt64).2 := lp_give nc t hb rfl hK
    refine Ev.go (Cd.mono 14) [] 100 ?_
    refine And.intro e2 ?_
    refine And.intro e2 ?_
    refine And.intro zin ?_
    refine And.intro (fun _ => ?_) (fun z => absurd (by show hLe S.1 (ix (mFirst m (ix (mDeep m - 1))).toInt32) ≤ mIndex m (ix (mDeep m - 1)); rw [eix, zle]; exact Int32.le_refl _) z)
    refine And.intro e2 ?_
    refine And.intro zin ?_
    refine m_number (by decide) _ e2 ?_
    refine hQ _ _ ?_
    rw [← zle] at hend
    exact hend
  | j + 1, i, S, m, ⟨hi, t, hI, hF, hb, hix, hfi, hq, hle, hK⟩, Q', hQ, s => by
    obtain ⟨e1, e2⟩ := t.d1 nc.k90
    have h400 := hI.1.1.2.1
    have hn := nc.nin
    have hvi := isVar_in hv
    have hn25 : ∀ s : Int32, pC P (ix n) = 25 → s ≠ 1 := fun s z => absurd (hc.symm.trans z) (by decide)
    have eix : mIndex m (ix (mDeep m - 1)) = nI i := by rw [e1]; exact hix
    have efi : mFirst m (ix (mDeep m - 1)) = lN q := by rw [e1]; exact hfi
    have zT : (mFirst m (ix (mDeep m - 1))).toInt32 = nI q := by rw [efi]; exact lN_i q
    have eq : ix (nI q) = q := ix_nI (by omega)
    have zin : vp_in (mFirst m (ix (mDeep m - 1))).toInt32 400 := by rw [zT]; exact vp_in_nI (by omega) (by omega)
    have zle : hLe S.1 (ix (mFirst m (ix (mDeep m - 1))).toInt32) = nI L := by rw [zT, eq]; exact hle
    have zI : (mIndex m (ix (mDeep m - 1))).toInt64.toInt32 = nI i := by rw [Int32.toInt32_toInt64]; exact eix
    have hne : ¬ hLe S.1 q = -1 := by rw [hle]; exact nI_ne rfl (by omega)
    have hi1 : 0 ≤ (nI i).toInt := by rw [nI_toInt (by omega)]; omega
    have hi2 : (nI i).toInt < (hLe S.1 q).toInt := by rw [hle, nI_toInt (by omega), nI_toInt (by omega)]; omega
    obtain ⟨f1, f2, f3, f4, f5, f6, f7⟩ := arr_facts hI.1 hq hne
    obtain ⟨g1, g2, g3, g4⟩ := el_facts hI.1 hq hne hi1 hi2
    have hkind : bI (decide (8 ≤ hTy S.1 q - 16)) &&& 1 = bI (!decide (hKindAt S.1 (nI q) (nI i) = 0)) := by
      rw [bI_and, bI_inj]
      unfold hKindAt hNums
      rw [f2, ← tIsNum_8 f3]
      cases decide (8 ≤ hTy S.1 q - 16)
      · rfl
      · show true = !decide ((bif decide (hAmAt S.1 (nI q) (nI i) = -1) then (1 : Int32) else 2) = 0)
        cases decide (hAmAt S.1 (nI q) (nI i) = -1) <;> rfl
    have ham : hAmAt S.1 (nI q) (nI i) = hAm S.1 (ix (hSt S.1 q + nI i)) := by unfold hAmAt; rw [g1, eq]; rfl
    unfold eEachL at hK
    have hI2 := Inv_var (v := pb P (ix n)) hI (el_vOK hI.1 g1)
    have esv : sVar S (pb P (ix n)) (hKindAt S.1 (nI q) (nI i)) (hAmAt S.1 (nI q) (nI i)) = (S.1, (x_up (vK S.2.1) (ix (pb P (ix n))) (hKindAt S.1 (nI q) (nI i)), x_up (vA S.2.1) (ix (pb P (ix n))) (hAm S.1 (ix (hSt S.1 q + nI i))), vT S.2.1, vHK S.2.1, vHA S.2.1, vH S.2.1), S.2.2) := by
      unfold sVar
      rw [hv, ham]
      rfl
    have hend : Lp P d n0 Q (mEnter P (S.1, (x_up (vK S.2.1) (ix (pb P (ix n))) (hKindAt S.1 (nI q) (nI i)), x_up (vA S.2.1) (ix (pb P (ix n))) (hAm S.1 (ix (hSt S.1 q + nI i))), vT S.2.1, vHK S.2.1, vHA S.2.1, vH S.2.1), S.2.2) (mSetStage (mSetIndex (mSetVar m (ix (pb P (ix n))) (bI (decide (8 ≤ hTy S.1 q - 16)) &&& 1)) (ix (mDeep m - 1)) (mIndex m (ix (mDeep m - 1)) + 1)) (ix (mDeep m - 1)) 2) (pc' P (ix n))).1 (mEnter P (S.1, (x_up (vK S.2.1) (ix (pb P (ix n))) (hKindAt S.1 (nI q) (nI i)), x_up (vA S.2.1) (ix (pb P (ix n))) (hAm S.1 (ix (hSt S.1 q + nI i))), vT S.2.1, vHK S.2.1, vHA S.2.1, vH S.2.1), S.2.2) (mSetStage (mSetIndex (mSetVar m (ix (pb P (ix n))) (bI (decide (8 ≤ hTy S.1 q - 16)) &&& 1)) (ix (mDeep m - 1)) (mIndex m (ix (mDeep m - 1)) + 1)) (ix (mDeep m - 1)) 2) (pc' P (ix n))).2 := by
      rw [esv] at hK hI2
      have ex0 := nc.ex _ hkc hkl κ _ hI2 hF
      have t2 : TOP k m0 n 2 b (S.1, (x_up (vK S.2.1) (ix (pb P (ix n))) (hKindAt S.1 (nI q) (nI i)), x_up (vA S.2.1) (ix (pb P (ix n))) (hAm S.1 (ix (hSt S.1 q + nI i))), vT S.2.1, vHK S.2.1, vHA S.2.1, vH S.2.1), S.2.2) (mSetVar m (ix (pb P (ix n))) (bI (decide (8 ≤ hTy S.1 q - 16)) &&& 1)) := by
        refine ⟨⟨?_, t.1.2⟩, t.2⟩
        rw [hkind]
        exact rel_up t.1.1 _ _
      rw [e1]
      refine lp_enter nc (TOP.stage' (TOP.index t2 _) 2) hI2 hF hkc hkl (HB_kid hkl (by show (vH S.2.1).toInt ≤ _; rw [hb]; exact hH)) hb (fun z => hn25 _ z) hK ?_
      intro hx hK1 hI1 hF1 hvh1 m1 t1 hkp1
      obtain ⟨i1, i2, i3, i4, i5, i6⟩ := ex0
      generalize (E (pc' P (ix n)) (S.1, (x_up (vK S.2.1) (ix (pb P (ix n))) (hKindAt S.1 (nI q) (nI i)), x_up (vA S.2.1) (ix (pb P (ix n))) (hAm S.1 (ix (hSt S.1 q + nI i))), vT S.2.1, vHK S.2.1, vHA S.2.1, vH S.2.1), S.2.2)).2 = S1 at *
      refine lp_step21 nc t1 hF1 hc (fun Q2 hQ2 => ?_)
      refine Cd.mk cdX8_stepEach 5 4 2 [(0, .ref 0), (1, .int n), (2, .int 2)] rfl rfl rfl rfl 0 ?_
      refine Ev.go (Cd.mono 14) [69] 100 ?_
      refine And.intro (fun _ => ?_) (fun z => absurd z (by decide))
      refine And.intro (fun _ => ?_) (fun z => absurd z (by decide))
      refine each_at (q := q) (κ := κ) nc hc hL4 hv hkc hkl hH j (i + 1) S1 m1 ?_ Q2 hQ2 2
      refine ⟨by omega, t1, hI1, hF1, hvh1, ?_, ?_, ?_, ?_, hK1⟩
      · rw [hkp1.1]
        show x_up (mIndex m) k (mIndex m k + 1) k = _
        rw [x_up_self, hix, nI_1]
      · rw [hkp1.2.2.1]
        exact hfi
      · exact Int.lt_of_lt_of_le hq i5.1
      · exact (i5.2 q hq).2.2.trans hle
    refine Ev.go (Cd.mono 14) [] 100 ?_
    refine And.intro e2 ?_
    refine And.intro e2 ?_
    refine And.intro zin ?_
    refine And.intro (fun z => absurd z (by show ¬ hLe S.1 (ix (mFirst m (ix (mDeep m - 1))).toInt32) ≤ mIndex m (ix (mDeep m - 1)); rw [eix, zle]; exact nI_ge (by omega) (by omega))) (fun _ => ?_)
    refine And.intro e2 ?_
    refine And.intro e2 ?_
    refine m_placeOf (by decide) _ _ zin ?_
    rw [zT, zI, eq]
    refine And.intro hn ?_
    refine And.intro e2 ?_
    refine m_holdsRefs (by decide) _ zin ?_
    rw [zT, eq]
    refine And.intro hvi ?_
    refine And.intro hn ?_
    refine And.intro g2 ?_
    refine And.intro hvi ?_
    refine And.intro e2 ?_
    refine And.intro e2 ?_
    refine And.intro e2 ?_
    refine And.intro hn ?_
    refine m_enter (S := (S.1, (x_up (vK S.2.1) (ix (pb P (ix n))) (hKindAt S.1 (nI q) (nI i)), x_up (vA S.2.1) (ix (pb P (ix n))) (hAm S.1 (ix (hSt S.1 q + nI i))), vT S.2.1, vHK S.2.1, vHA S.2.1, vH S.2.1), S.2.2)) (m := mSetStage (mSetIndex (mSetVar m (ix (pb P (ix n))) (bI (decide (8 ≤ hTy S.1 q - 16)) &&& 1)) (ix (mDeep m - 1)) (mIndex m (ix (mDeep m - 1)) + 1)) (ix (mDeep m - 1)) 2) (by decide) _ (pIsNode_in nc.wf.1 hkc) (t.deepin nc.k90) ?_
    exact hQ _ _ hend
set_option maxRecDepth 100000 in
set_option maxHeartbeats 1000000 in
theorem sim_21 {κ : Int} {S : SS} {m : MS} (nc : NC P G E d n0 Q k m0 n) (hI : Inv G κ S) (hF : rF S.2.2 = 0) (hH : (vH S.2.1).toInt ≤ HB P n) (t : TOP k m0 n 0 (vH S.2.1) S m) (hx0 : mIndex m k = 0) (hc : pC P (ix n) = 21) (hK : KO P d n0 Q k m0 (eWith P E n S)) : Lp P d n0 Q S m := by
  have hfit := pFit nc.wf nc.nd
  rw [hc] at hfit
  have hfit2 := Bool.and_eq_true_iff.mp (show (pIsNode (pPre P (ix n)) (pa P (ix n)) && (isVar (pb P (ix n)) && pIsNode (pPre P (ix n)) (pc' P (ix n)))) = true from hfit)
  have hfit3 := Bool.and_eq_true_iff.mp hfit2.2
  have hk1 := pKid nc.nd hfit2.1
  have hk3 := pKid nc.nd hfit3.2
  have hn := nc.nin
  have hn25 : ∀ s : Int32, pC P (ix n) = 25 → s ≠ 1 := fun s z => absurd (hc.symm.trans z) (by decide)
  unfold eWith at hK
  refine lp_step21 nc t hF hc (fun Q' hQ => ?_)
  refine Cd.mk cdX8_stepEach 5 4 2 [(0, .ref 0), (1, .int n), (2, .int 0)] rfl rfl rfl rfl 100 ?_
  refine And.intro (fun z => absurd rfl z) (fun _ => ?_)
  refine And.intro hn ?_
  refine m_next (by decide) _ (pIsNode_in nc.wf.1 hk1.1) (t.deepin nc.k90) (t.d1 nc.k90).2 ?_
  refine hQ _ _ ?_
  refine lp_next nc t hI hF hk1.1 hk1.2 (HB_kid hk1.2 hH) rfl (fun z => hn25 _ z) hK ?_
  intro hx hK hI hF hV hvh m' t hkp hR
  generalize (E (pa P (ix n)) S).2 = S1 at *
  obtain ⟨e1, e2⟩ := t.d1 nc.k90
  refine lp_step21 nc t hF hc (fun Q' hQ => ?_)
  refine Cd.mk cdX8_stepEach 5 4 2 [(0, .ref 0), (1, .int n), (2, .int 1)] rfl rfl rfl rfl 0 ?_
  refine Ev.go (Cd.mono 14) [69] 100 ?_
  refine And.intro (fun _ => ?_) (fun z => absurd z (by decide))
  refine And.intro (fun z => absurd rfl z) (fun _ => ?_)
  refine m_warr (by decide) n hI.1 hR hV ?_ ?_
  · intro hT
    refine And.intro (fun _ => ?_) (fun z => absurd z ne10)
    rw [oArr_Te hT] at hK
    have hK : KO P d n0 Q k m0 (bif decide (rK S1.2.2 = 1) then (false, sFail S1 1 n) else bif decide (pC P (ix n) = 17) then oMade ((hCopy S1.1 (rA S1.2.2).toInt32).2, S1.2) n (hCopy S1.1 (rA S1.2.2).toInt32).1 else bif decide (pC P (ix n) = 21) then eEachL P E n (rA S1.2.2).toInt32 (hLenOf S1.1 (rA S1.2.2).toInt32) (ix (hLenOf S1.1 (rA S1.2.2).toInt32)) 0 S1 else (true, sGive S1 0 (hLenOf S1.1 (rA S1.2.2).toInt32).toInt64)) := hK
    rcases oArr_T hT with h1 | ⟨h2, ha⟩
    · rw [decide_eq_true h1, cond_true] at hK
      have hneg : mCame m' < 0 := by
        rcases hV with x | x | x
        · rw [h1] at x; exact absurd x ne10
        · rw [hR.2, x.2]; decide
        · rw [h1] at x; exact absurd x.1 (by decide)
      refine And.intro (fun z => absurd hneg (by rw [lc_ge] at z; exact z)) (fun _ => ?_)
      refine m_fail (by decide) _ _ ?_
      exact hQ _ _ (lp_fail nc t hvh (fun z => hn25 _ z) (by decide) hK)
    · rw [dne h2 (by decide), dne hc (by decide), decide_eq_true hc, cond_false, cond_false, cond_true] at hK
      have hval := vOK_ref hV (by rw [h2]; decide)
      have hneg : ¬ mCame m' < 0 := by
        rcases hval with x | x
        · rw [h2] at x; exact absurd x.1 (by decide)
        · rw [hR.2]; exact x.2.1
      have hval2 : ∃ q : Nat, (q : Int) < (hTh S1.1).toInt ∧ rA S1.2.2 = lN q := by
        rcases hval with x | x
        · rw [h2] at x; exact absurd x.1 (by decide)
        · exact x.2.2
      obtain ⟨q, hq, hqa⟩ := hval2
      have h400 := hI.1.1.2.1
      have eq : ix (nI q) = q := ix_nI (by omega)
      have eT : (rA S1.2.2).toInt32 = nI q := by rw [hqa]; exact lN_i q
      rw [eT] at ha hK
      obtain ⟨a1, a2, a3, a4, a5, a6, a7, a8, a9⟩ := arr_all hI.1 ha
      have f4 := (thing_facts hI.1 hq).2.2.2.1
      have eL : hLenOf S1.1 (nI q) = hLe S1.1 q := by unfold hLenOf; rw [f4, eq]; rfl
      rw [eq] at a8 a9 a7
      have eLL := nI_toI a8
      have hE4 := hI.1.1.2.2.2.1
      rw [eL] at hK
      refine And.intro (fun _ => ?_) (fun z => absurd (by rw [lc_ge]; exact hneg) z)
      refine And.intro e2 ?_
      refine And.intro e2 ?_
      refine each_at (q := q) (κ := κ) (L := (hLe S1.1 q).toInt.toNat) (b := vH S.2.1) nc hc (by omega) hfit3.1 hk3.1 hk3.2 hH (hLe S1.1 q).toInt.toNat 0 S1 (mSetStage (mSetF m' (ix (mDeep m' - 1)) (mCame m')) (ix (mDeep m' - 1)) 2) ?_ Q' hQ 1
      refine ⟨Nat.zero_add _, ?_, hI, hF, hvh, ?_, ?_, hq, eLL, ?_⟩
      · rw [e1]
        exact TOP.stage' (TOP.setF t _) 2
      · exact hkp.1.trans hx0
      · show x_up (mFirst m') (ix (mDeep m' - 1)) (mCame m') k = _
        rw [e1, x_up_self, hR.2]
        exact hqa
      · rw [← eLL]
        exact hK
  · intro hT
    refine And.intro (fun z => absurd rfl z) (fun _ => ?_)
    rw [oArr_F hT] at hK
    exact hQ _ _ (lp_fail nc t hvh (fun z => hn25 _ z) (by decide) hK)
end SIMJ
