/-! every node -/
section SIMU
variable {P : SP} {G : Int → UInt64 → Prop} {E : Int32 → SS → SO} {d : Nat} {n0 : Int32} {Q : xQ} {k : Nat} {m0 : MS} {n : Int32}
set_option maxRecDepth 100000 in
set_option maxHeartbeats 1000000 in
theorem sim_node {κ : Int} {S : SS} {m : MS} (nc : NC P G E d n0 Q k m0 n) (hI : Inv G κ S) (hN : Inv G κ (sNote S (pa P (ix n)))) (hF : rF S.2.2 = 0) (hH : (vH S.2.1).toInt ≤ HB P n) (t : TOP k m0 n 0 (vH S.2.1) S m) (hx0 : mIndex m k = 0) (h10 : ¬ pC P (ix n) = 10) (hK : KO P d n0 Q k m0 (eNode P E n S)) : Lp P d n0 Q S m := by
  have hfit := pFit nc.wf nc.nd
  unfold eNode at hK
  by_cases h0 : pC P (ix n) = 0
  · rw [decide_eq_true h0, cond_true] at hK
    exact sim_0 nc hI hF t h0 hK
  rw [decide_eq_false h0, cond_false] at hK
  by_cases h1 : pC P (ix n) = 1
  · rw [decide_eq_true h1, cond_true] at hK
    exact sim_1 nc hI hF t h1 hK
  rw [decide_eq_false h1, cond_false] at hK
  by_cases h2 : pC P (ix n) = 2
  · rw [decide_eq_true h2, cond_true] at hK
    exact sim_2 nc hI hF t h2 hK
  rw [decide_eq_false h2, cond_false] at hK
  by_cases h3 : pC P (ix n) = 3
  · rw [decide_eq_true h3, cond_true] at hK
    unfold eFlow at hK
    rw [decide_eq_true h3, cond_true] at hK
    exact sim_3 nc hI hF hH t h3 hK
  rw [decide_eq_false h3, cond_false] at hK
  by_cases h4 : pC P (ix n) = 4
  · rw [decide_eq_true h4, cond_true] at hK
    unfold eFlow at hK
    rw [dne h4 (by decide), cond_false] at hK
    rw [decide_eq_true h4, cond_true] at hK
    exact sim_4 nc hI hN hF hH t h4 hK
  rw [decide_eq_false h4, cond_false] at hK
  by_cases h5 : pC P (ix n) = 5
  · rw [decide_eq_true h5, cond_true] at hK
    exact sim_5 nc hI hF t h5 hK
  rw [decide_eq_false h5, cond_false] at hK
  by_cases h6 : pC P (ix n) = 6
  · rw [decide_eq_true h6, cond_true] at hK
    exact sim_two nc hI hF hH t (Or.inl h6) hK
  rw [decide_eq_false h6, cond_false] at hK
  by_cases h7 : pC P (ix n) = 7
  · rw [decide_eq_true h7, cond_true] at hK
    exact sim_two nc hI hF hH t (Or.inr (Or.inl h7)) hK
  rw [decide_eq_false h7, cond_false] at hK
  by_cases h8 : pC P (ix n) = 8
  · rw [decide_eq_true h8, cond_true] at hK
    exact sim_8 nc hI hF t h8 hK
  rw [decide_eq_false h8, cond_false] at hK
  by_cases h9 : pC P (ix n) = 9
  · rw [decide_eq_true h9, cond_true] at hK
    exact sim_9 nc hI hF hH t h9 hK
  rw [decide_eq_false h9, cond_false] at hK
  rw [decide_eq_false h10, cond_false] at hK
  by_cases h11 : pC P (ix n) = 11
  · rw [decide_eq_true h11, cond_true] at hK
    exact sim_11 nc hI hF hH t hx0 h11 hK
  rw [decide_eq_false h11, cond_false] at hK
  by_cases h12 : pC P (ix n) = 12
  · rw [decide_eq_true h12, cond_true] at hK
    exact sim_length nc hI hF hH t (Or.inl h12) hK
  rw [decide_eq_false h12, cond_false] at hK
  by_cases h13 : pC P (ix n) = 13
  · rw [decide_eq_true h13, cond_true] at hK
    exact sim_place nc hI hF hH t (Or.inl h13) hK
  rw [decide_eq_false h13, cond_false] at hK
  by_cases h14 : pC P (ix n) = 14
  · rw [decide_eq_true h14, cond_true] at hK
    exact sim_place nc hI hF hH t (Or.inr (Or.inl h14)) hK
  rw [decide_eq_false h14, cond_false] at hK
  by_cases h15 : pC P (ix n) = 15
  · rw [decide_eq_true h15, cond_true] at hK
    exact sim_place nc hI hF hH t (Or.inr (Or.inr (Or.inl h15))) hK
  rw [decide_eq_false h15, cond_false] at hK
  by_cases h16 : pC P (ix n) = 16
  · rw [decide_eq_true h16, cond_true] at hK
    exact sim_place nc hI hF hH t (Or.inr (Or.inr (Or.inr h16))) hK
  rw [decide_eq_false h16, cond_false] at hK
  by_cases h17 : pC P (ix n) = 17
  · rw [decide_eq_true h17, cond_true] at hK
    exact sim_length nc hI hF hH t (Or.inr h17) hK
  rw [decide_eq_false h17, cond_false] at hK
  by_cases h18 : pC P (ix n) = 18
  · rw [decide_eq_true h18, cond_true] at hK
    unfold eFlow at hK
    rw [dne h18 (by decide), cond_false] at hK
    rw [dne h18 (by decide), cond_false] at hK
    rw [decide_eq_true h18, cond_true] at hK
    exact sim_18 nc hI hF hH t h18 hK
  rw [decide_eq_false h18, cond_false] at hK
  by_cases h19 : pC P (ix n) = 19
  · rw [decide_eq_true h19, cond_true] at hK
    unfold eFlow at hK
    rw [dne h19 (by decide), cond_false] at hK
    rw [dne h19 (by decide), cond_false] at hK
    rw [dne h19 (by decide), cond_false] at hK
    rw [decide_eq_true h19, cond_true] at hK
    exact sim_19 nc hI hF hH t h19 hK
  rw [decide_eq_false h19, cond_false] at hK
  by_cases h20 : pC P (ix n) = 20
  · rw [decide_eq_true h20, cond_true] at hK
    exact sim_two nc hI hF hH t (Or.inr (Or.inr h20)) hK
  rw [decide_eq_false h20, cond_false] at hK
  by_cases h21 : pC P (ix n) = 21
  · rw [decide_eq_true h21, cond_true] at hK
    exact sim_21 nc hI hF hH t hx0 h21 hK
  rw [decide_eq_false h21, cond_false] at hK
  by_cases h22 : pC P (ix n) = 22
  · rw [decide_eq_true h22, cond_true] at hK
    exact sim_22 nc hI hF hH t hx0 h22 hK
  rw [decide_eq_false h22, cond_false] at hK
  by_cases h23 : pC P (ix n) = 23
  · rw [decide_eq_true h23, cond_true] at hK
    unfold eFlow at hK
    rw [dne h23 (by decide), cond_false] at hK
    rw [dne h23 (by decide), cond_false] at hK
    rw [dne h23 (by decide), cond_false] at hK
    rw [dne h23 (by decide), cond_false] at hK
    rw [decide_eq_true h23, cond_true] at hK
    exact sim_23 nc hI hF hH t h23 hK
  rw [decide_eq_false h23, cond_false] at hK
  by_cases h24 : pC P (ix n) = 24
  · rw [decide_eq_true h24, cond_true] at hK
    unfold eFlow at hK
    rw [dne h24 (by decide), cond_false] at hK
    rw [dne h24 (by decide), cond_false] at hK
    rw [dne h24 (by decide), cond_false] at hK
    rw [dne h24 (by decide), cond_false] at hK
    rw [dne h24 (by decide), cond_false] at hK
    rw [decide_eq_true h24, cond_true] at hK
    exact sim_24 nc hI hF hH t h24 hK
  rw [decide_eq_false h24, cond_false] at hK
  by_cases h25 : pC P (ix n) = 25
  · rw [decide_eq_true h25, cond_true] at hK
    unfold eFlow at hK
    rw [dne h25 (by decide), cond_false] at hK
    rw [dne h25 (by decide), cond_false] at hK
    rw [dne h25 (by decide), cond_false] at hK
    rw [dne h25 (by decide), cond_false] at hK
    rw [dne h25 (by decide), cond_false] at hK
    rw [dne h25 (by decide), cond_false] at hK
    rw [decide_eq_true h25, cond_true] at hK
    exact sim_25 nc hI (fun S n hI h => Inv_take hI h) hF hH t h25 hK
  rw [decide_eq_false h25, cond_false] at hK
  by_cases h26 : pC P (ix n) = 26
  · rw [decide_eq_true h26, cond_true] at hK
    exact sim_26 nc hI hF hH t h26 hK
  rw [decide_eq_false h26, cond_false] at hK
  unfold pFits at hfit
  rw [decide_eq_false h0, cond_false] at hfit
  rw [decide_eq_false h1, cond_false] at hfit
  rw [decide_eq_false h2, cond_false] at hfit
  rw [decide_eq_false h3, cond_false] at hfit
  rw [decide_eq_false h4, cond_false] at hfit
  rw [decide_eq_false h5, cond_false] at hfit
  rw [decide_eq_false h6, cond_false] at hfit
  rw [decide_eq_false h7, cond_false] at hfit
  rw [decide_eq_false h8, cond_false] at hfit
  rw [decide_eq_false h9, cond_false] at hfit
  rw [decide_eq_false h10, cond_false] at hfit
  rw [decide_eq_false h11, cond_false] at hfit
  rw [decide_eq_false h12, cond_false] at hfit
  rw [decide_eq_false h13, cond_false] at hfit
  rw [decide_eq_false h14, cond_false] at hfit
  rw [decide_eq_false h15, cond_false] at hfit
  rw [decide_eq_false h16, cond_false] at hfit
  rw [decide_eq_false h17, cond_false] at hfit
  rw [decide_eq_false h18, cond_false] at hfit
  rw [decide_eq_false h19, cond_false] at hfit
  rw [decide_eq_false h20, cond_false] at hfit
  rw [decide_eq_false h21, cond_false] at hfit
  rw [decide_eq_false h22, cond_false] at hfit
  rw [decide_eq_false h23, cond_false] at hfit
  rw [decide_eq_false h24, cond_false] at hfit
  rw [decide_eq_false h25, cond_false] at hfit
  rw [decide_eq_false h26, cond_false] at hfit
  unfold pFitsT at hfit
  rw [decide_eq_false h8, decide_eq_false h9, decide_eq_false h10, decide_eq_false h11, decide_eq_false h12, decide_eq_false h13, decide_eq_false h14, decide_eq_false h15, decide_eq_false h16, decide_eq_false h17, decide_eq_false h18, decide_eq_false h19, decide_eq_false h20, decide_eq_false h21, decide_eq_false h22] at hfit
  exact absurd (show false = true from hfit) (by decide)
end SIMU
theorem ev_EX {P : SP} {G : Int → UInt64 → Prop} (hw : pWF P) (go : GO G) (f : Nat) (N : Int) : EX P G (ev P f) N := by
  intro c _ _ κ S hI hF
  obtain ⟨r1, r2, r3, r4, r5, r6⟩ := ev_EA hw go f κ c S hI
  exact ⟨r1, fun z => ⟨(r6 hF).1 z, r2 z⟩, (r6 hF).2, r3, r4, r5⟩
theorem TOP_push {k : Nat} {n : Int32} {S : SS} {m : MS} (hr : RM S m) (hd : mDeep m = nI k) (hk : k ≤ 90) : TOP k m n 0 (vH S.2.1) (sWork S) (mPush m n (vH S.2.1)) ∧ mIndex (mPush m n (vH S.2.1)) k = 0 := by
  have e : ix (mDeep m) = k := by rw [hd]; exact ix_nI (by omega)
  refine ⟨⟨hr, ?_, ?_, ?_, ?_, ?_⟩, ?_⟩
  · show mDeep m + 1 = _
    rw [hd, nI_1]
  · intro j hj
    unfold mRow mPush
    simp only [mStage, mAt, mIndex, mFRef, mFirst, mSecond, mThird, mFourth, mReal, mBase]
    simp only [mDeep] at e
    simp only [mDeep, e]
    rw [x_up_ne _ _ (by omega), x_up_ne _ _ (by omega), x_up_ne _ _ (by omega), x_up_ne _ _ (by omega)]
  · show x_up (mAt m) (ix (mDeep m)) n k = _
    rw [e, x_up_self]
  · show x_up (mStage m) (ix (mDeep m)) 0 k = _
    rw [e, x_up_self]
  · show x_up (mBase m) (ix (mDeep m)) (vH S.2.1) k = _
    rw [e, x_up_self]
  · show x_up (mIndex m) (ix (mDeep m)) 0 k = _
    rw [e, x_up_self]
theorem sx_ev {P : SP} {G : Int → UInt64 → Prop} {d : Nat} {n0 : Int32} {Q : xQ} (hw : pWF P) (hd : 20 ≤ d) (f1 : fOK1) (fc : fCut) (go : GO G) : ∀ f : Nat, SX P G d n0 Q (ev P f) f
  | 0 => fun c hc hlt => by have := pIsNode_iff.mp hc; omega
  | f + 1 => fun c hc hlt κ S k m hI hF hk hH hr hdp hK => by
    have hcr := pIsNode_iff.mp hc
    unfold ev at hK
    rw [hc] at hK
    simp only [Bool.not_true, cond_false] at hK
    have el : pIsList P c = decide (pC P (ix c) = 10) := by unfold pIsList; rw [hc]; rfl
    rw [el] at hK
    unfold mEnter
    by_cases h10 : pC P (ix c) = 10
    · rw [decide_eq_true h10] at hK ⊢
      exact hK m ⟨hr, hdp, PB.rfl'⟩ (fun z => by cases z)
    · rw [decide_eq_false h10, cond_false] at hK ⊢
      have hN3 := hI.2.2.2.2.2.1
      have hN0 := hI.2.2.2.2.1
      have e3 : (3000 : Int32).toInt = 3000 := rfl
      by_cases hN : rN S.2.2 < 3000
      · have hN2 : ¬ rN S.2.2 = 3000 := fun z => by
          have h1 := i_lt hN
          rw [z] at h1
          omega
        rw [decide_eq_true hN] at hK
        rw [decide_eq_false hN2, cond_false]
        simp only [Bool.not_true, cond_false] at hK
        obtain ⟨t, hx⟩ := TOP_push (n := c) hr hdp (by omega)
        have hIw := Inv_work hI hN
        have hIn := Inv_note hI hN (pa P (ix c))
        have sx := sx_ev (d := d) (n0 := n0) (Q := Q) hw hd f1 fc go f
        have nc : NC P G (ev P f) d n0 Q k m c := ⟨hw, hd, f1, fc, go, ev_EX hw go f _, (fun c' hc' hlt' => sx c' hc' (by omega)), hc, hk⟩
        exact sim_node nc hIw hIn hF hH t hx h10 hK
      · have hN2 : rN S.2.2 = 3000 := by
          have h1 := i_not_lt hN
          exact Int32.toInt_inj.mp (by omega)
        rw [decide_eq_false hN] at hK
        rw [decide_eq_true hN2, cond_true]
        exact hK m ⟨hr, hdp, PB.rfl'⟩ (fun z => by cases z)
