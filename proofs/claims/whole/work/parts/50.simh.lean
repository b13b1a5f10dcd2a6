/-! lists of nodes; what may be held -/
theorem pAt_le {P : SP} (hw : pWF P) : ∀ (k : Nat) (x : Int32), pIsList P x = true → (k : Int) < (pLen P x).toInt → (pAt P k x).toInt ≤ x.toInt
  | 0, x, hx, hk => Int.le_refl _
  | k + 1, x, hx, hk => by
    obtain ⟨g1, g2, g3, g4⟩ := pWF_list hw hx
    have h1 : (1 : Int32).toInt = 1 := rfl
    have h80 := hw.1.2
    have hr := pIsNode_iff.mp (pIsList_node hx)
    unfold pAt
    rw [hx]
    simp only [cond_true]
    rcases pLN_cases g1 with y | y
    · rw [g3, y, pLen_none] at hk
      have : ((1 : Int32) + 0).toInt = 1 := rfl
      omega
    · have hr2 := pIsNode_iff.mp (pIsList_node y)
      have hq := pLen_rng hw 80 _ y (by omega)
      have e : (pLen P x).toInt = 1 + (pLen P (pa P (ix x))).toInt := by rw [g3, i_add (by omega) (by omega)]; omega
      have := pAt_le hw k _ y (by omega)
      rcases g2 with z | z
      · rw [z] at hr2
        have : (-1 : Int32).toInt = -1 := rfl
        omega
      · omega
theorem pNth_node {P : SP} (hw : pWF P) {l i : Int32} (hl : pIsList P l = true) (hi : 0 ≤ i.toInt) (hil : i.toInt < (pLen P l).toInt) : pIsNode P (pNth P l i) = true ∧ (pNth P l i).toInt < l.toInt := by
  have hr := pIsNode_iff.mp (pIsList_node hl)
  have h80 := hw.1.2
  have hq := pLen_rng hw 80 _ hl (by omega)
  have h1 : (1 : Int32).toInt = 1 := rfl
  have e : (pLen P l - 1).toInt = (pLen P l).toInt - 1 := i_sub (by omega) (by omega)
  have hk : ((((pLen P l - 1).toInt - i.toInt).toNat : Nat) : Int) < (pLen P l).toInt := by omega
  obtain ⟨a1, a2⟩ := pAt_list hw _ l hl hk
  have a3 := pAt_le hw _ l hl hk
  obtain ⟨g1, g2, g3, g4, g5⟩ := pWF_list hw a1
  unfold pNth pEl
  rw [a1, cond_true]
  exact ⟨g4, by omega⟩
/-- a list that a node takes -/
theorem pList_of {P : SP} (hw : pWF P) {n l : Int32} (hn : pIsNode P n = true) (h : pIsLN (pPre P (ix n)) l = true) : pIsLN P l = true ∧ (pIsList P l = true → l.toInt < n.toInt) ∧ 0 ≤ (pLen P l).toInt ∧ (pLen P l).toInt ≤ 80 ∧ (pLen P l = 0 ∨ pIsList P l = true) := by
  have hr := pIsNode_iff.mp hn
  have h80 := hw.1.2
  have hi : ((ix n : Nat) : Int) = n.toInt := by rw [ix_eq]; omega
  unfold pIsLN at h ⊢
  by_cases hm : l = -1
  · subst hm
    refine ⟨by rw [decide_eq_true rfl, Bool.true_or], ?_, ?_, ?_, Or.inl (pLen_none P)⟩
    · intro z
      have := pIsNode_iff.mp (pIsList_node z)
      have e1 : (-1 : Int32).toInt = -1 := rfl
      omega
    · rw [pLen_none]; decide
    · rw [pLen_none]; decide
  · rw [decide_eq_false hm, Bool.false_or] at h
    have h4 := (pPre_node (ix_lt n)).mp (pIsList_node h)
    have h5 : pIsNode P l = true := pIsNode_iff.mpr ⟨h4.1, by omega⟩
    have h6 : pIsList P l = true := by
      simp only [pIsList, Bool.and_eq_true] at h ⊢
      exact ⟨h5, h.2⟩
    have hq := pLen_rng hw 80 _ h6 (by have := pIsNode_iff.mp h5; omega)
    exact ⟨by rw [h6, Bool.or_true], fun _ => by omega, by omega, by omega, Or.inr h6⟩
theorem cntL_mono {P : SP} : ∀ {a b : Nat}, a ≤ b → cntL P a ≤ cntL P b := by
  intro a b h
  induction h with
  | refl => exact Nat.le_refl _
  | step _ ih => exact Nat.le_trans ih (Nat.le_add_right _ _)
theorem pLen_cnt {P : SP} (hw : pWF P) : ∀ (f : Nat) (x : Int32), pIsList P x = true → x.toInt < f → (pLen P x).toInt ≤ (cntL P (ix x + 1) : Nat)
  | 0, x, hx, hf => by have := pIsNode_iff.mp (pIsList_node hx); omega
  | f + 1, x, hx, hf => by
    obtain ⟨g1, g2, g3, g4⟩ := pWF_list hw hx
    have h1 : (1 : Int32).toInt = 1 := rfl
    have h80 := hw.1.2
    have hr := pIsNode_iff.mp (pIsList_node hx)
    have hc : pC P (ix x) = 10 := by
      simp only [pIsList, Bool.and_eq_true, decide_eq_true_eq] at hx
      exact hx.2
    have e1 : cntL P (ix x + 1) = cntL P (ix x) + 1 := by
      rw [cntL, decide_eq_true hc]
      rfl
    rw [e1]
    rcases pLN_cases g1 with y | y
    · rw [g3, y, pLen_none]
      have : ((1 : Int32) + 0).toInt = 1 := rfl
      omega
    · have hr2 := pIsNode_iff.mp (pIsList_node y)
      have hq := pLen_rng hw 80 _ y (by omega)
      have e : (pLen P x).toInt = 1 + (pLen P (pa P (ix x))).toInt := by rw [g3, i_add (by omega) (by omega)]; omega
      have hlt : (pa P (ix x)).toInt < x.toInt := by
        rcases g2 with z | z
        · rw [z] at hr2
          have : (-1 : Int32).toInt = -1 := rfl
          omega
        · exact z.2
      have ih := pLen_cnt hw f _ y (by omega)
      have m := cntL_mono (P := P) (show ix (pa P (ix x)) + 1 ≤ ix x by have e5 := ix_eq (pa P (ix x)); have e6 := ix_eq x; omega)
      omega
theorem cnt_sum {P : SP} {c : Int} : ∀ n, cntL P n + cntV P c n ≤ n
  | 0 => Nat.le_refl _
  | n + 1 => by
    have ih := cnt_sum (P := P) (c := c) n
    unfold cntL cntV
    by_cases h1 : pC P n = 10
    · rw [decide_eq_true h1, dne h1 (by decide)]
      simp only [Bool.false_and, cond_true, cond_false]
      omega
    · rw [decide_eq_false h1]
      cases (decide (pC P n = 22) && decide (c < n)) <;> simp only [cond_true, cond_false] <;> omega
theorem prod_1600 : ∀ v : Nat, v < 81 → (80 - v) * v ≤ 1600 := by decide +kernel
theorem HB_1600 {P : SP} (hw : pWF P) (c : Int32) : HB P c ≤ 1600 := by
  have h := cnt_sum (P := P) (c := c.toInt) (ix (pN P))
  have h80 := hw.1.2
  have h0 := hw.1.1
  have hN : ix (pN P) ≤ 80 := by rw [ix_eq]; omega
  unfold HB
  generalize cntL P (ix (pN P)) = L at *
  generalize cntV P c.toInt (ix (pN P)) = V at *
  have h1 : L ≤ 80 - V := by omega
  exact Nat.le_trans (Nat.mul_le_mul_right V h1) (prod_1600 V (by omega))
theorem cntV_step {P : SP} {c n : Int} (h : c < n) {N : Nat} (hN : n < N) (h0 : 0 ≤ n) (h22 : pC P n.toNat = 22) : cntV P n N + 1 ≤ cntV P c N := by
  induction N with
  | zero => omega
  | succ N ih =>
    unfold cntV
    by_cases e : n = N
    · have e2 : n.toNat = N := by omega
      rw [e2] at h22
      have m := cntV_mono (P := P) (show c ≤ n by omega) N
      rw [decide_eq_true h22, decide_eq_false (show ¬ n < N by omega), decide_eq_true (show c < N by omega)]
      show cntV P n N + 0 + 1 ≤ cntV P c N + 1
      omega
    · have ih := ih (by omega)
      by_cases h1 : pC P N = 22
      · rw [decide_eq_true h1, decide_eq_true (show n < N by omega), decide_eq_true (show c < N by omega)]
        show cntV P n N + 1 + 1 ≤ cntV P c N + 1
        omega
      · rw [decide_eq_false h1]
        show cntV P n N + 0 + 1 ≤ cntV P c N + 0
        omega
theorem HB_step {P : SP} (hw : pWF P) {c n : Int32} (h : c.toInt < n.toInt) (hn : pIsNode P n = true) (h22 : pC P (ix n) = 22) : HB P n + cntL P (ix (pN P)) ≤ HB P c := by
  have hr := pIsNode_iff.mp hn
  have := cntV_step (P := P) h (N := ix (pN P)) (by rw [ix_eq]; omega) hr.1 h22
  unfold HB
  generalize cntL P (ix (pN P)) = L at *
  have m := Nat.mul_le_mul_left L this
  rw [Nat.mul_add, Nat.mul_one] at m
  exact m
theorem pLen_L {P : SP} (hw : pWF P) {l : Int32} (hl : pIsList P l = true) : (pLen P l).toInt ≤ (cntL P (ix (pN P)) : Nat) := by
  have hr := pIsNode_iff.mp (pIsList_node hl)
  have h := pLen_cnt hw 80 l hl (by have := hw.1.2; omega)
  have m := cntL_mono (P := P) (show ix l + 1 ≤ ix (pN P) by rw [ix_eq, ix_eq]; omega)
  omega
/-! LIST OF what is in an array -/
theorem TOP.stage' {k : Nat} {m0 : MS} {n s b : Int32} {S : SS} {m : MS} (t : TOP k m0 n s b S m) (x : Int32) : TOP k m0 n x b S (mSetStage m k x) := by
  refine ⟨t.1, t.2.1, ?_, t.2.2.2.1, x_up_self _ _ _, t.2.2.2.2.2⟩
  intro j hj
  rw [← t.2.2.1 j hj]
  unfold mRow mSetStage
  simp only [mStage, mAt, mIndex, mFRef, mFirst, mSecond, mThird, mFourth, mReal, mBase]
  rw [x_up_ne _ _ (by omega)]
theorem TOP.index {k : Nat} {m0 : MS} {n s b : Int32} {S : SS} {m : MS} (t : TOP k m0 n s b S m) (x : Int32) : TOP k m0 n s b S (mSetIndex m k x) := by
  refine ⟨t.1, t.2.1, ?_, t.2.2.2⟩
  intro j hj
  rw [← t.2.2.1 j hj]
  unfold mRow mSetIndex
  simp only [mStage, mAt, mIndex, mFRef, mFirst, mSecond, mThird, mFourth, mReal, mBase]
  rw [x_up_ne _ _ (by omega)]
def mSetF (m : MS) (i : Nat) (v : Int64) : MS := (m.1, (mDeep m, mAt m, mStage m, mIndex m, mFRef m, x_up (mFirst m) i v, m.2.1.2.2.2.2.2.2), m.2.2)
theorem TOP.setF {k : Nat} {m0 : MS} {n s b : Int32} {S : SS} {m : MS} (t : TOP k m0 n s b S m) (x : Int64) : TOP k m0 n s b S (mSetF m k x) := by
  refine ⟨t.1, t.2.1, ?_, t.2.2.2⟩
  intro j hj
  rw [← t.2.2.1 j hj]
  unfold mRow mSetF
  simp only [mStage, mAt, mIndex, mFRef, mFirst, mSecond, mThird, mFourth, mReal, mBase]
  rw [x_up_ne _ _ (by omega)]
section SIMH
variable {P : SP} {G : Int → UInt64 → Prop} {E : Int32 → SS → SO} {d : Nat} {n0 : Int32} {Q : xQ} {k : Nat} {m0 : MS} {n : Int32}
/-- what holds where the reference is about to take the next of the list -/
def FA (P : SP) (G : Int → UInt64 → Prop) (E : Int32 → SS → SO) (d : Nat) (n0 : Int32) (Q : xQ) (k : Nat) (m0 : MS) (n : Int32) (L q : Nat) (b : Int32) (κ : Int) (j i : Nat) (S : SS) (m : MS) : Prop :=
  i + j = L ∧ TOP k m0 n 1 b S m ∧ Inv G κ S ∧ rF S.2.2 = 0 ∧ vH S.2.1 = b ∧ mIndex m k = nI i ∧ mFirst m k = lN q ∧ (q : Int) < (hTh S.1).toInt ∧ hLe S.1 q = nI L ∧ KO P d n0 Q k m0 (eFillL P E n (nI q) j i S)
set_option maxRecDepth 100000 in
set_option maxHeartbeats 1000000 in
theorem fill_at (nc : NC P G E d n0 Q k m0 n) (hc : pC P (ix n) = 11) {L q : Nat} {b : Int32} {κ : Int} (hL : pLen P (pb P (ix n)) = nI L) (hL80 : L ≤ 80) (hLN : pIsLN P (pb P (ix n)) = true) (hLt : pIsList P (pb P (ix n)) = true → (pb P (ix n)).toInt < n.toInt) (hLl : 0 < L → pIsList P (pb P (ix n)) = true) (hH : b.toInt ≤ HB P n) : ∀ (j i : Nat) (S : SS) (m : MS), FA P G E d n0 Q k m0 n L q b κ j i S m → ∀ Q' : xQ, (∀ S' m', Lp P d n0 Q S' m' → Q' none (wM P S' m')) → ∀ (s : Int32) (ex : List (Nat × Value)), (ex = [] ∨ ∃ v, ex = [(5, v)]) → Ev (Cd 14) cdX8_stepFilled Q' 125 ([(0, .ref 0), (1, .int n), (2, .int s), (3, .int (mDeep m - 1)), (4, .int (nI L))] ++ ex) [] (wM P S m)
  | 0, i, S, m, ⟨hi, t, hI, hF, hb, hix, hfi, hq, hle, hK⟩, Q', hQ, s, ex, hex => by
    obtain ⟨e1, e2⟩ := t.d1 nc.k90
    have hi : i = L := by omega
    subst hi
    have h400 := hI.1.1.2.1
    have eix : mIndex m (ix (mDeep m - 1)) = nI i := by rw [e1]; exact hix
    have efi : mFirst m (ix (mDeep m - 1)) = lN q := by rw [e1]; exact hfi
    have hend : Lp P d n0 Q (mGive S m 1 (mFirst m (ix (mDeep m - 1)))).1 (mGive S m 1 (mFirst m (ix (mDeep m - 1)))).2 := by
      refine lp_give nc t hb (kk := 2) rfl ?_
      rw [efi]
      have := hK
      unfold eFillL at this
      rw [nI_l (by omega)] at this
      exact this
    rcases hex with rfl | ⟨v, rfl⟩
    · refine Ev.go (Cd.mono 14) [] 100 ?_
      refine And.intro e2 ?_
      refine And.intro (fun _ => ?_) (fun z => absurd (by show nI i ≤ mIndex m (ix (mDeep m - 1)); rw [eix]; exact Int32.le_refl _) z)
      refine And.intro e2 ?_
      refine m_give (by decide) _ _ (Or.inr rfl) e2 ?_
      exact hQ _ _ hend
    · refine Ev.go (Cd.mono 14) [] 100 ?_
      refine And.intro e2 ?_
      refine And.intro (fun _ => ?_) (fun z => absurd (by show nI i ≤ mIndex m (ix (mDeep m - 1)); rw [eix]; exact Int32.le_refl _) z)
      refine And.intro e2 ?_
      refine m_give (by decide) _ _ (Or.inr rfl) e2 ?_
      exact hQ _ _ hend
  | j + 1, i, S, m, ⟨hi, t, hI, hF, hb, hix, hfi, hq, hle, hK⟩, Q', hQ, s, ex, hex => by
    obtain ⟨e1, e2⟩ := t.d1 nc.k90
    have h400 := hI.1.1.2.1
    have hn := nc.nin
    have hn25 : ∀ s : Int32, pC P (ix n) = 25 → s ≠ 1 := fun s z => absurd (hc.symm.trans z) (by decide)
    have eix : mIndex m (ix (mDeep m - 1)) = nI i := by rw [e1]; exact hix
    have hls := hLl (by omega)
    have hi1 : 0 ≤ (nI i).toInt := by rw [nI_toInt (by omega)]; omega
    have hi2 : (nI i).toInt < (pLen P (pb P (ix n))).toInt := by rw [hL, nI_toInt (by omega), nI_toInt (by omega)]; omega
    obtain ⟨c1, c2⟩ := pNth_node nc.wf hls hi1 hi2
    have c3 : (pNth P (pb P (ix n)) (nI i)).toInt < n.toInt := by have := hLt hls; omega
    unfold eFillL at hK
    have hend : Lp P d n0 Q (mNext P S m (pNth P (pb P (ix n)) (nI i))).1 (mNext P S m (pNth P (pb P (ix n)) (nI i))).2 := by
      have ex0 := nc.ex _ c1 c3 κ S hI hF
      refine lp_next nc t hI hF c1 c3 (HB_kid c3 (by rw [hb]; exact hH)) hb (fun z => hn25 _ z) hK ?_
      intro hx hK hI1 hF1 hV1 hvh1 m1 t1 hkp1 hR1
      obtain ⟨i1, i2, i3, i4, i5, i6⟩ := ex0
      generalize (E (pNth P (pb P (ix n)) (nI i)) S).2 = S1 at *
      obtain ⟨y1, y2⟩ := t1.d1 nc.k90
      have hq1 : (q : Int) < (hTh S1.1).toInt := by have := i5.1; omega
      have hle1 : hLe S1.1 q = nI L := (i5.2 q hq).2.2.trans hle
      have yix : mIndex m1 (ix (mDeep m1 - 1)) = nI i := by rw [y1]; exact hkp1.1.trans hix
      have yfi : mFirst m1 (ix (mDeep m1 - 1)) = lN q := by rw [y1]; exact hkp1.2.2.1.trans hfi
      have h400b := hI1.1.1.2.1
      have zT : (mFirst m1 (ix (mDeep m1 - 1))).toInt32 = nI q := by rw [yfi]; exact lN_i q
      have zq : ix (mFirst m1 (ix (mDeep m1 - 1))).toInt32 = q := by rw [zT]; exact ix_nI (by omega)
      have zI : (mIndex m1 (ix (mDeep m1 - 1))).toInt64.toInt32 = nI i := by rw [Int32.toInt32_toInt64]; exact yix
      have hne : ¬ hLe S1.1 q = -1 := by rw [hle1]; exact nI_ne rfl (by omega)
      refine lp_step11 nc t1 hF1 hc (fun Q2 hQ2 => ?_)
      refine Cd.mk cdX8_stepFilled 6 4 2 [(0, .ref 0), (1, .int n), (2, .int 2)] rfl rfl rfl rfl 0 ?_
      refine Ev.go (Cd.mono 14) [125] 100 ?_
      refine And.intro hn ?_
      refine m_many (by decide) nc.wf _ hLN ?_
      rw [hL]
      refine And.intro (fun _ => ?_) (fun z => absurd z (by decide))
      refine And.intro (fun z => absurd rfl z) (fun _ => ?_)
      refine And.intro y2 ?_
      refine And.intro y2 ?_
      refine m_put (by decide) nc.f1 nc.fc hI1.1 hR1 hV1 _ _ (by rw [zT, ix_nI (by omega)]) (by rw [zq]; exact hq1) (by rw [zq]; exact hne) (by rw [zI]; exact hi1) (by rw [zI, zq, hle1, nI_toInt (by omega), nI_toInt (by omega)]; omega) ?_ ?_
      · intro c hc0 hp
        rw [zT, zI] at hp
        have hK2 : oPut S1 n (nI q) (nI i) = (false, sFail S1 c n) := by
          unfold oPut
          rw [hp]
          rw [decide_eq_false (show ¬ c = 0 from fun z => by rw [z] at hc0; exact absurd hc0 (by decide))]
          rfl
        rw [hK2] at hK
        refine And.intro (fun z => absurd (i_le z) (by show ¬ c.toInt ≤ 0; omega)) (fun _ => ?_)
        refine m_fail (by decide) _ _ ?_
        exact hQ2 _ _ (lp_fail nc t1 hvh1 (fun z => hn25 _ z) hc0 hK)
      · intro hnum hp
        rw [zT, zI] at hp
        have hK2 : oPut S1 n (nI q) (nI i) = (true, (hPut0 S1.1 (nI q) (nI i) (rK S1.2.2) (rA S1.2.2), S1.2)) := by
          unfold oPut
          rw [hp]
          rfl
        have hRp := RR_put (b := b) (n := n) (t := nI q) (i := nI i) nc.go hI1 hvh1 hV1
        rw [hK2] at hK hRp
        rw [zT, zI]
        refine And.intro (fun _ => ?_) (fun z => absurd (Int32.le_refl _) z)
        refine And.intro y2 ?_
        refine And.intro y2 ?_
        refine And.intro y2 ?_
        have ih := fill_at (q := q) (κ := κ) nc hc hL hL80 hLN hLt hLl hH j (i + 1) (hPut0 S1.1 (nI q) (nI i) (rK S1.2.2) (rA S1.2.2), S1.2) (mSetStage (mSetIndex (mSetR m1 (mRef m1) (hAm (hPut0 S1.1 (nI q) (nI i) (rK S1.2.2) (rA S1.2.2)) (ix (hSt S1.1 (ix (nI q)) + nI i)))) (ix (mDeep m1 - 1)) (mIndex m1 (ix (mDeep m1 - 1)) + 1)) (ix (mDeep m1 - 1)) 1) ?_ Q2 hQ2 2 [(5, .int 0)] (Or.inr ⟨_, rfl⟩)
        · exact ih
        · refine ⟨by omega, ?_, hRp.1, hF1, hvh1, ?_, ?_, ?_, ?_, hK⟩
          · rw [y1]
            exact TOP.stage' (TOP.index (S := (hPut0 S1.1 (nI q) (nI i) (rK S1.2.2) (rA S1.2.2), S1.2)) (m := mSetR m1 (mRef m1) (hAm (hPut0 S1.1 (nI q) (nI i) (rK S1.2.2) (rA S1.2.2)) (ix (hSt S1.1 (ix (nI q)) + nI i)))) t1 _) 1
          · show x_up (mIndex m1) (ix (mDeep m1 - 1)) (mIndex m1 (ix (mDeep m1 - 1)) + 1) k = _
            rw [yix, y1, x_up_self, nI_1]
          · show mFirst m1 k = _
            rw [← y1]; exact yfi
          · exact Int.lt_of_lt_of_le hq1 hRp.2.2.2.1.1
          · exact (hRp.2.2.2.1.2 q hq1).2.2.trans hle1
    rcases hex with rfl | ⟨v, rfl⟩
    · refine Ev.go (Cd.mono 14) [] 100 ?_
      refine And.intro e2 ?_
      refine And.intro (fun z => absurd z (by show ¬ nI L ≤ mIndex m (ix (mDeep m - 1)); rw [eix]; exact nI_ge (by omega) (by omega))) (fun _ => ?_)
      refine And.intro hn ?_
      refine And.intro e2 ?_
      rw [eix]
      refine m_nodeOf (by decide) nc.wf _ _ hls hi1 hi2 ?_
      refine m_next (by decide) _ (pIsNode_in nc.wf.1 c1) (t.deepin nc.k90) e2 ?_
      exact hQ _ _ hend
    · refine Ev.go (Cd.mono 14) [] 100 ?_
      refine And.intro e2 ?_
      refine And.intro (fun z => absurd z (by show ¬ nI L ≤ mIndex m (ix (mDeep m - 1)); rw [eix]; exact nI_ge (by omega) (by omega))) (fun _ => ?_)
      refine And.intro hn ?_
      refine And.intro e2 ?_
      rw [eix]
      refine m_nodeOf (by decide) nc.wf _ _ hls hi1 hi2 ?_
      refine m_next (by decide) _ (pIsNode_in nc.wf.1 c1) (t.deepin nc.k90) e2 ?_
      exact hQ _ _ hend
set_option maxRecDepth 100000 in
set_option maxHeartbeats 1000000 in
theorem sim_11 {κ : Int} {S : SS} {m : MS} (nc : NC P G E d n0 Q k m0 n) (hI : Inv G κ S) (hF : rF S.2.2 = 0) (hH : (vH S.2.1).toInt ≤ HB P n) (t : TOP k m0 n 0 (vH S.2.1) S m) (hx0 : mIndex m k = 0) (hc : pC P (ix n) = 11) (hK : KO P d n0 Q k m0 (eFilled P E n S)) : Lp P d n0 Q S m := by
  have hfit := pFit nc.wf nc.nd
  rw [hc] at hfit
  obtain ⟨g1, g2⟩ := Bool.and_eq_true_iff.mp (show (tIsArr (pa P (ix n)) && pIsLN (pPre P (ix n)) (pb P (ix n))) = true from hfit)
  obtain ⟨l1, l2, l3, l4, l5⟩ := pList_of nc.wf nc.nd g2
  have hL := nI_toI l3
  have hn := nc.nin
  obtain ⟨e1, e2⟩ := t.d1 nc.k90
  have hn25 : ∀ s : Int32, pC P (ix n) = 25 → s ≠ 1 := fun s z => absurd (hc.symm.trans z) (by decide)
  have hh := hI.1.1
  refine lp_step11 nc t hF hc (fun Q' hQ => ?_)
  refine Cd.mk cdX8_stepFilled 6 4 2 [(0, .ref 0), (1, .int n), (2, .int 0)] rfl rfl rfl rfl 0 ?_
  refine Ev.go (Cd.mono 14) [125] 100 ?_
  refine And.intro hn ?_
  refine m_many (by decide) nc.wf _ l1 ?_
  refine And.intro (fun z => absurd rfl z) (fun _ => ?_)
  refine m_hasRoom (by decide) _ _ ?_
  unfold eFilled at hK
  cases hr : uRoom S.1 1 (pLen P (pb P (ix n))).toInt64
  · refine And.intro (fun z => absurd rfl z) (fun _ => ?_)
    rw [hMA_F hh l3 hr] at hK
    refine m_fail (by decide) _ _ ?_
    exact hQ _ _ (lp_fail nc t rfl (fun z => hn25 _ z) (by decide) hK)
  · refine And.intro (fun _ => ?_) (fun z => absurd z (by decide))
    obtain ⟨r1, r2⟩ := (uRoom_iff hh l3).mp hr
    rw [hMA_T hI.1 g1 l3 hr] at hK
    have h0 := hh.1
    have h4 := hh.2.1
    have hne : ¬ hTh S.1 = -1 := fun y => by rw [y] at h0; exact absurd h0 (by decide)
    rw [decide_eq_false hne, cond_false] at hK
    have hTn := nI_toI h0
    obtain ⟨k1, k2⟩ := hInv_mk hI.1 r1 (Or.inr ⟨g1, l3, r2⟩)
    have jk := hMA_keep (t := pa P (ix n)) (n := pLen P (pb P (ix n))) hh
    have j3 := (hInv_MA hI.1 (n := pLen P (pb P (ix n))) g1).2.2
    rw [hMA_T hI.1 g1 l3 hr] at jk j3
    have hI2 := RR_heap hI k1 jk (fun j => ⟨j, by rw [j3]⟩)
    refine And.intro hn ?_
    refine m_make (by decide) _ _ (vp_in_iff.mpr ⟨h0, i_lt r1⟩) hh.2.2.1 (Or.inr ⟨l3, r2⟩) ?_
    refine And.intro e2 ?_
    refine And.intro e2 ?_
    have hfa : FA P G E d n0 Q k m0 n (pLen P (pb P (ix n))).toInt.toNat (ix (hTh S.1)) (vH S.2.1) κ (pLen P (pb P (ix n))).toInt.toNat 0 (uMk S.1 (pa P (ix n)) (pLen P (pb P (ix n))), S.2) (mSetStage (mSetF m (ix (mDeep m - 1)) (hTh S.1).toInt64) (ix (mDeep m - 1)) 1) := by
      refine ⟨Nat.zero_add _, ?_, hI2, hF, rfl, hx0, ?_, ?_, ?_, ?_⟩
      · rw [e1]
        exact TOP.stage' (TOP.setF (S := (uMk S.1 (pa P (ix n)) (pLen P (pb P (ix n))), S.2)) t _) 1
      · show x_up (mFirst m) (ix (mDeep m - 1)) (hTh S.1).toInt64 k = _
        rw [e1, x_up_self]
        have e3 := nI_l (n := (hTh S.1).toInt.toNat) (by omega)
        rw [← hTn] at e3
        exact e3
      · show _ < (hTh (uMk S.1 (pa P (ix n)) (pLen P (pb P (ix n))))).toInt
        rw [k2, ix_eq]
        omega
      · show x_up (hLe S.1) (ix (hTh S.1)) (pLen P (pb P (ix n))) (ix (hTh S.1)) = _
        rw [x_up_self]
        exact hL
      · have e4 : nI (ix (hTh S.1)) = hTh S.1 := hTn.symm
        rw [e4]
        exact hK
    have := fill_at nc hc hL (by omega) l1 l2 (fun z => l5.resolve_left (fun y => by rw [y] at z; exact absurd z (by decide))) hH _ _ _ _ hfa Q' hQ 0 [] (Or.inl rfl)
    rw [← hL] at this
    exact this
end SIMH
