/-! nodes: what was told of them -/
theorem pFit {P : SP} {n : Int32} (hw : pWF P) (hn : pIsNode P n = true) : pFits (pPre P (ix n)) (pC P (ix n)) (pa P (ix n)) (pb P (ix n)) (pc' P (ix n)) (pd P (ix n)) = true := by
  have hr := pIsNode_iff.mp hn
  exact (hw.2 (ix n) (by rw [ix_eq]; omega)).1
theorem pKid {P : SP} {n x : Int32} (hn : pIsNode P n = true) (h : pIsNode (pPre P (ix n)) x = true) : pIsNode P x = true ∧ x.toInt < n.toInt := by
  have h1 := (pPre_node (ix_lt n)).mp h
  have hr := pIsNode_iff.mp hn
  have hi : ((ix n : Nat) : Int) = n.toInt := by rw [ix_eq]; omega
  exact ⟨pIsNode_iff.mpr ⟨h1.1, by omega⟩, by omega⟩
theorem cntV_mono {P : SP} {c e : Int} (h : c ≤ e) : ∀ n, cntV P e n ≤ cntV P c n
  | 0 => Nat.le_refl _
  | n + 1 => by
    have ih := cntV_mono (P := P) h n
    unfold cntV
    by_cases h1 : pC P n = 22
    · by_cases h2 : e < n
      · rw [decide_eq_true h1, decide_eq_true h2, decide_eq_true (show c < n by omega)]
        exact Nat.add_le_add_right ih _
      · rw [decide_eq_true h1, decide_eq_false h2]
        exact Nat.le_trans (Nat.le_trans (Nat.le_of_eq (Nat.add_zero _)) ih) (Nat.le_add_right _ _)
    · rw [decide_eq_false h1]
      exact Nat.add_le_add_right ih _
theorem HB_mono {P : SP} {c n : Int32} (h : c.toInt ≤ n.toInt) : HB P n ≤ HB P c := Nat.mul_le_mul_left _ (cntV_mono h _)
theorem HB_kid {P : SP} {c n : Int32} {x : Int32} (h : c.toInt < n.toInt) (hx : x.toInt ≤ HB P n) : x.toInt ≤ HB P c := by
  have := HB_mono (P := P) (show c.toInt ≤ n.toInt by omega)
  omega
theorem vOK_ref {h : SH} {k : Int32} {a : Int64} (hv : vOK h k a) (hk : ¬ k = 0) : (k = 1 ∧ a = -1 ∧ a < 0) ∨ (k = 2 ∧ ¬ a < 0 ∧ ∃ t : Nat, (t : Int) < (hTh h).toInt ∧ a = lN t) := by
  rcases hv with h1 | h1 | h1
  · exact absurd h1 hk
  · exact Or.inl ⟨h1.1, h1.2, by rw [h1.2]; decide⟩
  · refine Or.inr ⟨h1.1, ?_, h1.2⟩
    obtain ⟨t, h2, h3⟩ := h1.2
    have := i_rng (hTh h)
    rw [h3, Int64.lt_iff_toInt_lt]
    have : (lN t).toInt = t := lN_toInt (by omega)
    have z : (0 : Int64).toInt = 0 := rfl
    omega
section SIMA
variable {P : SP} {G : Int → UInt64 → Prop} {E : Int32 → SS → SO} {d : Nat} {n0 : Int32} {Q : xQ} {k : Nat} {m0 : MS} {n : Int32}
set_option maxRecDepth 100000 in
set_option maxHeartbeats 1000000 in
theorem sim_0 {κ : Int} {S : SS} {m : MS} (nc : NC P G E d n0 Q k m0 n) (hI : Inv G κ S) (hF : rF S.2.2 = 0) (t : TOP k m0 n 0 (vH S.2.1) S m) (hc : pC P (ix n) = 0) (hK : KO P d n0 Q k m0 (true, sGive S 0 (pa P (ix n)).toInt64)) : Lp P d n0 Q S m := by
  refine lp_step t.2.1 nc.k90 hF (fun Q' hQ => ?_)
  have hd := nc.deep
  obtain ⟨e1, e2⟩ := t.d1 nc.k90
  have eat : n = mAt m (ix (mDeep m - 1)) := by rw [e1]; exact t.2.2.2.1.symm
  have hn := nc.nin
  have hend := hQ _ _ (lp_give nc t rfl (r := 0) rfl hK)
  rw [eat] at hn hc hend
  refine Cd.up (show 16 ≤ d by omega) ?_
  refine Cd.mk cdX8_step 3 4 0 [(0, .ref 0)] rfl rfl rfl rfl 0 ?_
  refine Ev.go (Cd.mono 15) [] 100 ?_
  refine And.intro e2 ?_
  refine And.intro e2 ?_
  refine And.intro hn ?_
  refine And.intro (fun _ => ?_) (fun hx => absurd hc hx)
  refine And.intro hn ?_
  refine m_number (by decide) _ e2 ?_
  exact hend
set_option maxRecDepth 100000 in
set_option maxHeartbeats 1000000 in
theorem sim_1 {κ : Int} {S : SS} {m : MS} (nc : NC P G E d n0 Q k m0 n) (hI : Inv G κ S) (hF : rF S.2.2 = 0) (t : TOP k m0 n 0 (vH S.2.1) S m) (hc : pC P (ix n) = 1) (hK : KO P d n0 Q k m0 (true, sGive S 1 (-1))) : Lp P d n0 Q S m := by
  refine lp_step t.2.1 nc.k90 hF (fun Q' hQ => ?_)
  have hd := nc.deep
  obtain ⟨e1, e2⟩ := t.d1 nc.k90
  have eat : n = mAt m (ix (mDeep m - 1)) := by rw [e1]; exact t.2.2.2.1.symm
  have hn := nc.nin
  have hend := hQ _ _ (lp_give nc t rfl (r := 1) rfl hK)
  rw [eat] at hn hc
  refine Cd.up (show 16 ≤ d by omega) ?_
  refine Cd.mk cdX8_step 3 4 0 [(0, .ref 0)] rfl rfl rfl rfl 0 ?_
  refine Ev.go (Cd.mono 15) [] 100 ?_
  refine And.intro e2 ?_
  refine And.intro e2 ?_
  refine And.intro hn ?_
  refine And.intro (fun hx => absurd (hc.symm.trans hx) (by decide)) (fun _ => ?_)
  refine And.intro (fun _ => ?_) (fun hx => absurd hc hx)
  refine m_give (by decide) _ _ (Or.inr rfl) e2 ?_
  exact hend
set_option maxRecDepth 100000 in
set_option maxHeartbeats 1000000 in
theorem sim_2 {κ : Int} {S : SS} {m : MS} (nc : NC P G E d n0 Q k m0 n) (hI : Inv G κ S) (hF : rF S.2.2 = 0) (t : TOP k m0 n 0 (vH S.2.1) S m) (hc : pC P (ix n) = 2) (hK : KO P d n0 Q k m0 (true, sGiveVar S (pa P (ix n)))) : Lp P d n0 Q S m := by
  refine lp_step t.2.1 nc.k90 hF (fun Q' hQ => ?_)
  have hd := nc.deep
  obtain ⟨e1, e2⟩ := t.d1 nc.k90
  have eat : n = mAt m (ix (mDeep m - 1)) := by rw [e1]; exact t.2.2.2.1.symm
  have hn := nc.nin
  have hfit := pFit nc.wf nc.nd
  rw [hc] at hfit
  have hv : isVar (pa P (ix n)) = true := hfit
  have hvi := isVar_in hv
  unfold sGiveVar at hK
  rw [hv, cond_true] at hK
  have hend := hQ _ _ (lp_give nc t rfl (r := mIsRef m (ix (pa P (ix n)))) (by exact t.1.1 _) hK)
  have h01 : mIsRef m (ix (pa P (ix n))) = 0 ∨ mIsRef m (ix (pa P (ix n))) = 1 := by rw [t.1.1]; exact bI01 _
  rw [eat] at hn hc hend hvi h01
  refine Cd.up (show 16 ≤ d by omega) ?_
  refine Cd.mk cdX8_step 3 4 0 [(0, .ref 0)] rfl rfl rfl rfl 0 ?_
  refine Ev.go (Cd.mono 15) [] 100 ?_
  refine And.intro e2 ?_
  refine And.intro e2 ?_
  refine And.intro hn ?_
  refine And.intro (fun hx => absurd (hc.symm.trans hx) (by decide)) (fun _ => ?_)
  refine And.intro (fun hx => absurd (hc.symm.trans hx) (by decide)) (fun _ => ?_)
  refine And.intro (fun _ => ?_) (fun hx => absurd hc hx)
  refine And.intro hn ?_
  refine And.intro hvi ?_
  refine And.intro hn ?_
  refine And.intro hvi ?_
  refine m_give (by decide) _ _ h01 e2 ?_
  exact hend
set_option maxRecDepth 100000 in
set_option maxHeartbeats 1000000 in
theorem sim_5 {κ : Int} {S : SS} {m : MS} (nc : NC P G E d n0 Q k m0 n) (hI : Inv G κ S) (hF : rF S.2.2 = 0) (t : TOP k m0 n 0 (vH S.2.1) S m) (hc : pC P (ix n) = 5) (hK : KO P d n0 Q k m0 (false, sFail S 7 n)) : Lp P d n0 Q S m := by
  refine lp_step t.2.1 nc.k90 hF (fun Q' hQ => ?_)
  have hd := nc.deep
  obtain ⟨e1, e2⟩ := t.d1 nc.k90
  have eat : n = mAt m (ix (mDeep m - 1)) := by rw [e1]; exact t.2.2.2.1.symm
  have hn := nc.nin
  have hend := hQ _ _ (lp_fail nc t rfl (fun z => absurd (hc.symm.trans z) (by decide)) (by decide) hK)
  rw [eat] at hn hc hend
  refine Cd.up (show 16 ≤ d by omega) ?_
  refine Cd.mk cdX8_step 3 4 0 [(0, .ref 0)] rfl rfl rfl rfl 0 ?_
  refine Ev.go (Cd.mono 15) [] 100 ?_
  refine And.intro e2 ?_
  refine And.intro e2 ?_
  refine And.intro hn ?_
  refine And.intro (fun hx => absurd (hc.symm.trans hx) (by decide)) (fun _ => ?_)
  refine And.intro (fun hx => absurd (hc.symm.trans hx) (by decide)) (fun _ => ?_)
  refine And.intro (fun hx => absurd (hc.symm.trans hx) (by decide)) (fun _ => ?_)
  refine And.intro (fun hx => absurd (hc.symm.trans hx) (by decide)) (fun _ => ?_)
  refine And.intro (fun hx => absurd (hc.symm.trans hx) (by decide)) (fun _ => ?_)
  refine And.intro (fun _ => ?_) (fun hx => absurd hc hx)
  refine m_fail (by decide) _ _ ?_
  exact hend
def mSetVar (m : MS) (i : Nat) (r : Int32) : MS := ((mRef m, mCame m, x_up (mIsRef m) i r, mHRef m), m.2)
theorem rel_up {f : Nat → Int32} {g : Nat → Int32} (h : ∀ j, f j = bI (!decide (g j = 0))) (i : Nat) (v : Int32) : ∀ j, x_up f i (bI (!decide (v = 0))) j = bI (!decide (x_up g i v j = 0)) := by
  intro j
  unfold x_up
  by_cases hj : j = i
  · rw [if_pos hj, if_pos hj]
  · rw [if_neg hj, if_neg hj]
    exact h j
set_option maxRecDepth 100000 in
set_option maxHeartbeats 1000000 in
theorem sim_3 {κ : Int} {S : SS} {m : MS} (nc : NC P G E d n0 Q k m0 n) (hI : Inv G κ S) (hF : rF S.2.2 = 0) (hH : (vH S.2.1).toInt ≤ HB P n) (t : TOP k m0 n 0 (vH S.2.1) S m) (hc : pC P (ix n) = 3) (hK : KO P d n0 Q k m0 (oAnd (E (pb P (ix n)) S) (fun S => (true, sVar S (pa P (ix n)) (rK S.2.2) (rA S.2.2))))) : Lp P d n0 Q S m := by
  have hfit := pFit nc.wf nc.nd
  rw [hc] at hfit
  have hfit2 := Bool.and_eq_true_iff.mp (show (isVar (pa P (ix n)) && pIsNode (pPre P (ix n)) (pb P (ix n))) = true from hfit)
  have hk1 := pKid nc.nd hfit2.2
  have hvi := isVar_in hfit2.1
  have hn := nc.nin
  have hn25 : ∀ s : Int32, pC P (ix n) = 25 → s ≠ 1 := fun s z => absurd (hc.symm.trans z) (by decide)
  refine lp_step3 nc t hF hc (fun Q' hQ => ?_)
  refine Cd.mk cdX8_stepSet 4 4 2 [(0, .ref 0), (1, .int n), (2, .int 0)] rfl rfl rfl rfl 100 ?_
  refine And.intro hn ?_
  refine And.intro (fun z => absurd rfl z) (fun _ => ?_)
  refine And.intro (fun _ => ?_) (fun z => absurd (hc.symm.trans z) (by decide))
  refine And.intro hn ?_
  refine m_next (by decide) _ (pIsNode_in nc.wf.1 hk1.1) (by rw [t.2.1]; exact vp_in_nI (by have := nc.k90; omega) (by have := nc.k90; omega)) (t.d1 nc.k90).2 ?_
  refine hQ _ _ ?_
  refine lp_next nc t hI hF hk1.1 hk1.2 (HB_kid hk1.2 hH) rfl (fun z => hn25 _ z) hK ?_
  intro hx hK hI hF hV hvh m t hkp hR
  generalize (E (pb P (ix n)) S).2 = S1 at *
  refine lp_step3 nc t hF hc (fun Q' hQ => ?_)
  refine Cd.mk cdX8_stepSet 4 4 2 [(0, .ref 0), (1, .int n), (2, .int 1)] rfl rfl rfl rfl 100 ?_
  refine And.intro hn ?_
  refine And.intro (fun _ => ?_) (fun z => absurd z (by decide))
  refine And.intro (fun z => absurd hc z) (fun _ => ?_)
  refine And.intro hn ?_
  refine And.intro hvi ?_
  refine And.intro hn ?_
  refine And.intro hvi ?_
  have hr : mRef m &&& 1 = bI (!decide (rK S1.2.2 = 0)) := by rw [hR.1, bI_and]
  simp only [sVar, hfit2.1, cond_true] at hK
  have t2 : TOP k m0 n (0 + 1) (vH S.2.1) (S1.1, (x_up (vK S1.2.1) (ix (pa P (ix n))) (rK S1.2.2), x_up (vA S1.2.1) (ix (pa P (ix n))) (rA S1.2.2), vT S1.2.1, vHK S1.2.1, vHA S1.2.1, vH S1.2.1), S1.2.2) (mSetVar m (ix (pa P (ix n))) (mRef m &&& 1)) := by
    refine ⟨⟨?_, t.1.2⟩, t.2⟩
    rw [hr]
    exact rel_up t.1.1 _ _
  have hend := lp_same (m := mSetVar m (ix (pa P (ix n))) (mRef m &&& 1)) nc t2 (by exact hvh) (by exact hR) hK
  rw [← hR.2] at hend
  refine m_give (m := mSetVar m (ix (pa P (ix n))) (mRef m &&& 1)) (S := (S1.1, (x_up (vK S1.2.1) (ix (pa P (ix n))) (rK S1.2.2), x_up (vA S1.2.1) (ix (pa P (ix n))) (mCame m), vT S1.2.1, vHK S1.2.1, vHA S1.2.1, vH S1.2.1), S1.2.2)) (by decide) _ _ (by rw [hR.1]; exact bI01 _) (t.d1 nc.k90).2 ?_
  exact hQ _ _ hend
end SIMA
