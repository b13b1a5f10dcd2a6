/-! THE SIMULATION: the reference's pile against ev -/
abbrev MRw : Type := Int32 × Int32 × Int32 × Int32 × Int64 × Int64 × Int64 × Int64 × UInt64 × Int32
def mRow (m : MS) (j : Nat) : MRw := (mAt m j, mStage m j, mIndex m j, mFRef m j, mFirst m j, mSecond m j, mThird m j, mFourth m j, mReal m j, mBase m j)
def RM (S : SS) (m : MS) : Prop := (∀ j, mIsRef m j = bI (!decide (vK S.2.1 j = 0))) ∧ ∀ j, mHRef m j = bI (!decide (vHK S.2.1 j = 0))
def RES (S : SS) (m : MS) : Prop := mRef m = bI (!decide (rK S.2.2 = 0)) ∧ mCame m = rA S.2.2
def PB (k : Nat) (m m' : MS) : Prop := ∀ j, j < k → mRow m' j = mRow m j
theorem PB.rfl' {k : Nat} {m : MS} : PB k m m := fun _ _ => rfl
theorem PB.trans {k : Nat} {a b c : MS} (h : PB k a b) (h' : PB k b c) : PB k a c := fun j hj => (h' j hj).trans (h j hj)
theorem PB.less {k k' : Nat} {a b : MS} (h : PB k a b) (hk : k' ≤ k) : PB k' a b := fun j hj => h j (Nat.lt_of_lt_of_le hj hk)
def DN (k : Nat) (m0 : MS) (S : SS) (m : MS) : Prop := RM S m ∧ mDeep m = nI k ∧ PB k m0 m
def TOP (k : Nat) (m0 : MS) (n s b : Int32) (S : SS) (m : MS) : Prop := RM S m ∧ mDeep m = nI (k + 1) ∧ PB k m0 m ∧ mAt m k = n ∧ mStage m k = s ∧ mBase m k = b
/-- the rest of the row at k -/
def KP (k : Nat) (m m' : MS) : Prop := mIndex m' k = mIndex m k ∧ mFRef m' k = mFRef m k ∧ mFirst m' k = mFirst m k ∧ mSecond m' k = mSecond m k ∧ mThird m' k = mThird m k ∧ mFourth m' k = mFourth m k ∧ mReal m' k = mReal m k
theorem KP.trans {k : Nat} {a b c : MS} (h : KP k a b) (h' : KP k b c) : KP k a c :=
  ⟨h'.1.trans h.1, h'.2.1.trans h.2.1, h'.2.2.1.trans h.2.2.1, h'.2.2.2.1.trans h.2.2.2.1, h'.2.2.2.2.1.trans h.2.2.2.2.1, h'.2.2.2.2.2.1.trans h.2.2.2.2.2.1, h'.2.2.2.2.2.2.trans h.2.2.2.2.2.2⟩
theorem bI_and (b : Bool) : bI b &&& 1 = bI b := by cases b <;> rfl
theorem nI_s1 {k : Nat} : nI (k + 1) - 1 = nI k := by rw [← nI_1, i_add1sub]
theorem ix_nI {k : Nat} (h : k < 2 ^ 31) : ix (nI k) = k := nI_clamp h
def Lp (P : SP) (d : Nat) (n0 : Int32) (Q : xQ) (S : SS) (m : MS) : Prop := Ev (Cd d) cdX8_run Q 61 [(0, .ref 0), (1, .int n0)] [] (wM P S m)
section SIM
variable {P : SP} {d : Nat} {n0 : Int32} {Q : xQ}
theorem nI_pos1 {k : Nat} (hk : k < 2 ^ 31 - 1) : ¬ nI (k + 1) ≤ 0 := by
  rw [show (0 : Int32) = nI 0 from rfl, nI_leI (by omega) (by decide)]
  omega
set_option maxRecDepth 100000 in
set_option maxHeartbeats 1000000 in
theorem lp_step {k : Nat} {S : SS} {m : MS} (hdeep : mDeep m = nI (k + 1)) (hk : k ≤ 90) (hF : rF S.2.2 = 0) (h : ∀ Q' : xQ, (∀ S' m', Lp P d n0 Q S' m' → Q' none (wM P S' m')) → Cd d 146 [.ref 0] (wM P S m) Q') : Lp P d n0 Q S m := by
  unfold Lp
  refine Ev.go (Cd.mono d) [61] 100 ?_
  refine And.intro (fun h1 => absurd h1 (by show ¬ mDeep m ≤ 0; rw [hdeep]; exact nI_pos1 (by omega))) (fun _ => ?_)
  refine And.intro (fun _ => ?_) (fun h1 => absurd (show rF S.2.2 ≤ 0 by rw [hF]; exact Int32.le_refl _) h1)
  exact h _ (fun S' m' q => q)
def mPop (m : MS) : MS := mSetDeep m (mDeep m - 1)
theorem TOP.pop {k : Nat} {m0 : MS} {n s b : Int32} {S : SS} {m : MS} (t : TOP k m0 n s b S m) (x : Int32) : DN k m0 (sHeld S x) (mPop m) :=
  ⟨t.1, by show mDeep m - 1 = _; rw [t.2.1, nI_s1], t.2.2.1⟩
theorem TOP.d1 {k : Nat} {m0 : MS} {n s b : Int32} {S : SS} {m : MS} (t : TOP k m0 n s b S m) (hk : k ≤ 90) : ix (mDeep m - 1) = k ∧ vp_in (mDeep m - 1) 100 := by
  rw [t.2.1, nI_s1]
  exact ⟨ix_nI (by omega), vp_in_nI (by omega) (by omega)⟩
theorem sHeld_same {S : SS} {x : Int32} (h : vH S.2.1 = x) : sHeld S x = S := by
  subst h; rfl
set_option maxRecDepth 100000 in
set_option maxHeartbeats 1000000 in
theorem lp_fall {k : Nat} {m0 : MS} {n s b : Int32} {S : SS} {m : MS} (hd : 3 ≤ d) (t : TOP k m0 n s b S m) (hn : vp_in n 80) (hk : k ≤ 90) (hF : 0 < (rF S.2.2).toInt) (hc : pC P (ix n) = 25 → s ≠ 1) (h : ∀ m', DN k m0 (sHeld S b) m' → Lp P d n0 Q (sHeld S b) m') : Lp P d n0 Q S m := by
  unfold Lp
  refine Ev.go (Cd.mono d) [61] 100 ?_
  refine And.intro (fun h1 => absurd h1 (by show ¬ mDeep m ≤ 0; rw [t.2.1]; exact nI_pos1 (by omega))) (fun _ => ?_)
  refine And.intro (fun h1 => absurd (i_le h1) (by show ¬ (rF S.2.2).toInt ≤ 0; omega)) (fun _ => ?_)
  refine Cd.up (show 1 ≤ d by omega) ?_
  refine Cd.mk cdX8_unwind 3 4 0 [(0, .ref 0)] rfl rfl rfl rfl 100 ?_
  obtain ⟨e1, e2⟩ := t.d1 hk
  have eat : mAt m (ix (mDeep m - 1)) = n := by rw [e1]; exact t.2.2.2.1
  have est : mStage m (ix (mDeep m - 1)) = s := by rw [e1]; exact t.2.2.2.2.1
  have ebs : mBase m (ix (mDeep m - 1)) = b := by rw [e1]; exact t.2.2.2.2.2
  have hn' : vp_in (mAt m (ix (mDeep m - 1))) 80 := by rw [eat]; exact hn
  have hend := h (mPop m) (t.pop b)
  rw [← ebs] at hend
  refine And.intro e2 ?_
  refine And.intro hn' ?_
  refine And.intro (fun h1 => ?_) (fun h1 => ?_)
  · refine And.intro hn' ?_
    refine And.intro (fun h1 => ?_) (fun h2 => absurd h2 h1)
    refine And.intro e2 ?_
    exact hend
  · have hs : ¬ mStage m (ix (mDeep m - 1)) = 1 := by
      rw [est]
      refine hc ?_
      rw [← eat]
      exact h1
    refine And.intro e2 ?_
    refine And.intro (fun _ => ?_) (fun h2 => absurd h2 hs)
    refine And.intro hn' ?_
    refine And.intro (fun h3 => absurd h1 h3) (fun _ => ?_)
    refine And.intro e2 ?_
    refine And.intro (fun _ => ?_) (fun h2 => absurd h2 hs)
    refine And.intro e2 ?_
    exact hend
end SIM
/-! values, heaps, states as they ought to be -/
def vOK (h : SH) (k : Int32) (a : Int64) : Prop := k = 0 ∨ (k = 1 ∧ a = -1) ∨ (k = 2 ∧ ∃ t : Nat, (t : Int) < (hTh h).toInt ∧ a = lN t)
def hTyOK (h : SH) : Prop := ∀ t : Nat, (t : Int) < (hTh h).toInt → tIsType (hTy h t) = true ∧ (hLe h t = -1 → tIsInst (hTy h t) = true) ∧ (¬ hLe h t = -1 → 16 ≤ (hTy h t).toInt)
def hApart (h : SH) : Prop := ∀ t u : Nat, t < u → (u : Int) < (hTh h).toInt → ¬ hLe h t = -1 → ¬ hLe h u = -1 → (hSt h t).toInt + (hLe h t).toInt ≤ (hSt h u).toInt
def hZero (h : SH) : Prop := ∀ j : Nat, (hEl h).toInt ≤ j → hAm h j = 0 ∧ hRe h j = FP.dconst0
def hRefs (h : SH) : Prop := ∀ t : Nat, (t : Int) < (hTh h).toInt → ¬ hLe h t = -1 → 24 ≤ (hTy h t).toInt → ∀ i : Nat, (i : Int) < (hLe h t).toInt → hAm h (ix (hSt h t) + i) = -1 ∨ ∃ u : Nat, (u : Int) < (hTh h).toInt ∧ hAm h (ix (hSt h t) + i) = lN u
def hInv (h : SH) : Prop := hOK h ∧ hTyOK h ∧ hApart h ∧ hZero h ∧ hRefs h
def gB : Int := 2000000
def Inv (G : Int → UInt64 → Prop) (κ : Int) (S : SS) : Prop :=
  hInv S.1 ∧ (∀ j, vOK S.1 (vK S.2.1 j) (vA S.2.1 j)) ∧ (∀ j, vOK S.1 (vHK S.2.1 j) (vHA S.2.1 j)) ∧ (0 ≤ (vH S.2.1).toInt ∧ (vH S.2.1).toInt ≤ 1600) ∧
  (0 ≤ (rT S.2.2).toInt ∧ (rT S.2.2).toInt ≤ (rN S.2.2).toInt) ∧ (rN S.2.2).toInt ≤ 3000 ∧ (0 ≤ (rC S.2.2).toInt ∧ (rC S.2.2).toInt ≤ 40) ∧
  (1 ≤ κ + (rN S.2.2).toInt ∧ κ ≤ gB) ∧ ∀ j, G (κ + (rN S.2.2).toInt) (hRe S.1 j)
/-- what the reals ask of G -/
def GO (G : Int → UInt64 → Prop) : Prop :=
  (∀ b r, G b r → b ≤ gB + 3000 → ∀ m : Int64, (fOK6 r m ∧ G (b + 1) (FP.f2d (FP.fadd (FP.d2f r) (FP.l2f m)))) ∧ (fOK7 r m ∧ G (b + 1) (FP.dadd r (FP.l2d m)))) ∧
  (∀ b, 0 ≤ b → G b FP.dconst0) ∧ (∀ b c r, G b r → b ≤ c → G c r) ∧
  (∀ v : Int64, G 1 (FP.f2d (FP.l2f v)) ∧ G 1 (FP.l2d v))
/-- how much may be held where node c is entered -/
def cntL (P : SP) : Nat → Nat
  | 0 => 0
  | n + 1 => cntL P n + (bif decide (pC P n = 10) then 1 else 0)
def cntV (P : SP) (c : Int) : Nat → Nat
  | 0 => 0
  | n + 1 => cntV P c n + (bif (decide (pC P n = 22) && decide (c < n)) then 1 else 0)
def HB (P : SP) (c : Int32) : Nat := cntL P (ix (pN P)) * cntV P c.toInt (ix (pN P))
def EX (P : SP) (G : Int → UInt64 → Prop) (E : Int32 → SS → SO) (N : Int) : Prop := ∀ c : Int32, pIsNode P c = true → c.toInt < N → ∀ κ S, Inv G κ S → rF S.2.2 = 0 →
  Inv G κ (E c S).2 ∧ ((E c S).1 = true → rF (E c S).2.2.2 = 0 ∧ vOK (E c S).2.1 (rK (E c S).2.2.2) (rA (E c S).2.2.2)) ∧ ((E c S).1 = false → 0 < (rF (E c S).2.2.2).toInt) ∧ vH (E c S).2.2.1 = vH S.2.1 ∧ hKeep S.1 (E c S).2.1 ∧ (rN S.2.2).toInt ≤ (rN (E c S).2.2.2).toInt
def KO (P : SP) (d : Nat) (n0 : Int32) (Q : xQ) (k : Nat) (m0 : MS) (x : SO) : Prop := ∀ m', DN k m0 x.2 m' → (x.1 = true → RES x.2 m') → Lp P d n0 Q x.2 m'
def SX (P : SP) (G : Int → UInt64 → Prop) (d : Nat) (n0 : Int32) (Q : xQ) (E : Int32 → SS → SO) (N : Int) : Prop := ∀ c : Int32, pIsNode P c = true → c.toInt < N → ∀ (κ : Int) (S : SS) (k : Nat) (m : MS), Inv G κ S → rF S.2.2 = 0 → (k : Int) + c.toInt ≤ 80 → (vH S.2.1).toInt ≤ HB P c → RM S m → mDeep m = nI k → KO P d n0 Q k m (E c S) → Lp P d n0 Q (mEnter P S m c).1 (mEnter P S m c).2
/-- where a node is worked -/
def NC (P : SP) (G : Int → UInt64 → Prop) (E : Int32 → SS → SO) (d : Nat) (n0 : Int32) (Q : xQ) (k : Nat) (m0 : MS) (n : Int32) : Prop := pWF P ∧ 20 ≤ d ∧ fOK1 ∧ fCut ∧ GO G ∧ EX P G E n.toInt ∧ SX P G d n0 Q E n.toInt ∧ pIsNode P n = true ∧ (k : Int) + n.toInt ≤ 80
theorem NC.wf {P : SP} {G : Int → UInt64 → Prop} {E : Int32 → SS → SO} {d : Nat} {n0 : Int32} {Q : xQ} {k : Nat} {m0 : MS} {n : Int32} (h : NC P G E d n0 Q k m0 n) : pWF P := h.1
theorem NC.deep {P : SP} {G : Int → UInt64 → Prop} {E : Int32 → SS → SO} {d : Nat} {n0 : Int32} {Q : xQ} {k : Nat} {m0 : MS} {n : Int32} (h : NC P G E d n0 Q k m0 n) : 20 ≤ d := h.2.1
theorem NC.f1 {P : SP} {G : Int → UInt64 → Prop} {E : Int32 → SS → SO} {d : Nat} {n0 : Int32} {Q : xQ} {k : Nat} {m0 : MS} {n : Int32} (h : NC P G E d n0 Q k m0 n) : fOK1 := h.2.2.1
theorem NC.fc {P : SP} {G : Int → UInt64 → Prop} {E : Int32 → SS → SO} {d : Nat} {n0 : Int32} {Q : xQ} {k : Nat} {m0 : MS} {n : Int32} (h : NC P G E d n0 Q k m0 n) : fCut := h.2.2.2.1
theorem NC.go {P : SP} {G : Int → UInt64 → Prop} {E : Int32 → SS → SO} {d : Nat} {n0 : Int32} {Q : xQ} {k : Nat} {m0 : MS} {n : Int32} (h : NC P G E d n0 Q k m0 n) : GO G := h.2.2.2.2.1
theorem NC.ex {P : SP} {G : Int → UInt64 → Prop} {E : Int32 → SS → SO} {d : Nat} {n0 : Int32} {Q : xQ} {k : Nat} {m0 : MS} {n : Int32} (h : NC P G E d n0 Q k m0 n) : EX P G E n.toInt := h.2.2.2.2.2.1
theorem NC.sx {P : SP} {G : Int → UInt64 → Prop} {E : Int32 → SS → SO} {d : Nat} {n0 : Int32} {Q : xQ} {k : Nat} {m0 : MS} {n : Int32} (h : NC P G E d n0 Q k m0 n) : SX P G d n0 Q E n.toInt := h.2.2.2.2.2.2.1
theorem NC.nd {P : SP} {G : Int → UInt64 → Prop} {E : Int32 → SS → SO} {d : Nat} {n0 : Int32} {Q : xQ} {k : Nat} {m0 : MS} {n : Int32} (h : NC P G E d n0 Q k m0 n) : pIsNode P n = true := h.2.2.2.2.2.2.2.1
theorem NC.kn {P : SP} {G : Int → UInt64 → Prop} {E : Int32 → SS → SO} {d : Nat} {n0 : Int32} {Q : xQ} {k : Nat} {m0 : MS} {n : Int32} (h : NC P G E d n0 Q k m0 n) : (k : Int) + n.toInt ≤ 80 := h.2.2.2.2.2.2.2.2
section SIM2
variable {P : SP} {G : Int → UInt64 → Prop} {E : Int32 → SS → SO} {d : Nat} {n0 : Int32} {Q : xQ} {k : Nat} {m0 : MS} {n : Int32}
theorem NC.nr (nc : NC P G E d n0 Q k m0 n) : 0 ≤ n.toInt ∧ n.toInt < (pN P).toInt := pIsNode_iff.mp nc.nd
theorem NC.k90 (nc : NC P G E d n0 Q k m0 n) : k ≤ 90 := by have := nc.kn; have := nc.nr; omega
theorem NC.nin (nc : NC P G E d n0 Q k m0 n) : vp_in n 80 := pIsNode_in nc.wf.1 nc.nd
theorem lp_give {s b kk r : Int32} {v : Int64} {S : SS} {m : MS} (nc : NC P G E d n0 Q k m0 n) (t : TOP k m0 n s b S m) (hb : vH S.2.1 = b) (hr : r = bI (!decide (kk = 0))) (hK : KO P d n0 Q k m0 (true, sGive S kk v)) : Lp P d n0 Q (mGive S m r v).1 (mGive S m r v).2 := by
  have e : mBase m (ix (mDeep m - 1)) = vH S.2.1 := by rw [(t.d1 nc.k90).1, hb]; exact t.2.2.2.2.2
  unfold mGive
  rw [e]
  refine hK _ ⟨t.1, ?_, t.2.2.1⟩ (fun _ => ⟨hr, rfl⟩)
  show mDeep m - 1 = _
  rw [t.2.1, nI_s1]
theorem lp_same {s b : Int32} {S : SS} {m : MS} (nc : NC P G E d n0 Q k m0 n) (t : TOP k m0 n s b S m) (hb : vH S.2.1 = b) (hR : RES S m) (hK : KO P d n0 Q k m0 (true, S)) : Lp P d n0 Q (mGive S m (mRef m) (mCame m)).1 (mGive S m (mRef m) (mCame m)).2 := by
  refine lp_give nc t hb hR.1 ?_
  rw [hR.2]
  exact hK
theorem lp_fail {s b c : Int32} {S : SS} {m : MS} (nc : NC P G E d n0 Q k m0 n) (t : TOP k m0 n s b S m) (hb : vH S.2.1 = b) (hs : pC P (ix n) = 25 → s ≠ 1) (hc : 0 < c.toInt) (hK : KO P d n0 Q k m0 (false, sFail S c n)) : Lp P d n0 Q (sFail S c n) m := by
  have hd := nc.deep
  refine lp_fall (b := b) (s := s) (n := n) (m0 := m0) (k := k) (by omega) t nc.nin nc.k90 hc hs ?_
  intro m' hm'
  have e : sHeld (sFail S c n) b = sFail S c n := sHeld_same hb
  rw [e] at hm' ⊢
  exact hK m' hm' (fun z => by cases z)
theorem lp_next0 {s b c : Int32} {κ : Int} {S : SS} {m : MS} (nc : NC P G E d n0 Q k m0 n) (t : TOP k m0 n s b S m) (hI : Inv G κ S) (hF : rF S.2.2 = 0) (hcn : pIsNode P c = true) (hc : c.toInt < n.toInt) (hH : (vH S.2.1).toInt ≤ HB P c)
    (h0 : (E c S).1 = false → ∀ m', TOP k m0 n (s + 1) b (E c S).2 m' → Lp P d n0 Q (E c S).2 m')
    (h : (E c S).1 = true → ∀ m', TOP k m0 n (s + 1) b (E c S).2 m' → KP k m m' → RES (E c S).2 m' → Lp P d n0 Q (E c S).2 m') : Lp P d n0 Q (mNext P S m c).1 (mNext P S m c).2 := by
  unfold mNext
  have e := (t.d1 nc.k90).1
  have es : mStage m k = s := t.2.2.2.2.1
  rw [e, es]
  have hd1 : mDeep (mSetStage m k (s + 1)) = nI (k + 1) := t.2.1
  refine nc.sx c hcn hc κ S (k + 1) (mSetStage m k (s + 1)) hI hF (by have := nc.kn; omega) hH t.1 hd1 ?_
  intro m' hD hR
  have hrow : mRow m' k = mRow (mSetStage m k (s + 1)) k := hD.2.2 k (Nat.lt_succ_self k)
  have hpb : PB k m (mSetStage m k (s + 1)) := by
    intro j hj
    unfold mRow mSetStage
    simp only [mStage, mAt, mIndex, mFRef, mFirst, mSecond, mThird, mFourth, mReal, mBase]
    rw [x_up_ne _ _ (by omega)]
  have hT : TOP k m0 n (s + 1) b (E c S).2 m' := by
    refine ⟨hD.1, hD.2.1, (t.2.2.1.trans hpb).trans (hD.2.2.less (by omega)), ?_, ?_, ?_⟩
    · have : mAt m' k = mAt m k := congrArg (fun r : MRw => r.1) hrow
      rw [this]; exact t.2.2.2.1
    · have : mStage m' k = x_up (mStage m) k (s + 1) k := congrArg (fun r : MRw => r.2.1) hrow
      rw [this, x_up_self]
    · have : mBase m' k = mBase m k := congrArg (fun r : MRw => r.2.2.2.2.2.2.2.2.2) hrow
      rw [this]; exact t.2.2.2.2.2
  cases hx : (E c S).1
  · exact h0 hx m' hT
  · refine h hx m' hT ?_ (hR hx)
    exact ⟨congrArg (fun r : MRw => r.2.2.1) hrow, congrArg (fun r : MRw => r.2.2.2.1) hrow, congrArg (fun r : MRw => r.2.2.2.2.1) hrow, congrArg (fun r : MRw => r.2.2.2.2.2.1) hrow, congrArg (fun r : MRw => r.2.2.2.2.2.2.1) hrow, congrArg (fun r : MRw => r.2.2.2.2.2.2.2.1) hrow, congrArg (fun r : MRw => r.2.2.2.2.2.2.2.2.1) hrow⟩
theorem oAnd_t {x : SO} {f : SS → SO} (h : x.1 = true) : oAnd x f = f x.2 := by unfold oAnd; rw [h]; rfl
theorem oAnd_f {x : SO} {f : SS → SO} (h : x.1 = false) : oAnd x f = x := by unfold oAnd; rw [h]; rfl
/-- a part is worked next, and what it fails, the node fails -/
theorem lp_next {s b c : Int32} {κ : Int} {S : SS} {m : MS} {f : SS → SO} (nc : NC P G E d n0 Q k m0 n) (t : TOP k m0 n s b S m) (hI : Inv G κ S) (hF : rF S.2.2 = 0) (hcn : pIsNode P c = true) (hc : c.toInt < n.toInt) (hH : (vH S.2.1).toInt ≤ HB P c) (hb : vH S.2.1 = b) (hs : pC P (ix n) = 25 → s + 1 ≠ 1) (hK : KO P d n0 Q k m0 (oAnd (E c S) f))
    (h : (E c S).1 = true → KO P d n0 Q k m0 (f (E c S).2) → Inv G κ (E c S).2 → rF (E c S).2.2.2 = 0 → vOK (E c S).2.1 (rK (E c S).2.2.2) (rA (E c S).2.2.2) → vH (E c S).2.2.1 = b → ∀ m', TOP k m0 n (s + 1) b (E c S).2 m' → KP k m m' → RES (E c S).2 m' → Lp P d n0 Q (E c S).2 m') : Lp P d n0 Q (mNext P S m c).1 (mNext P S m c).2 := by
  obtain ⟨i1, i2, i3, i4, i5⟩ := nc.ex c hcn hc κ S hI hF
  have hd := nc.deep
  refine lp_next0 nc t hI hF hcn hc hH ?_ ?_
  · intro hx m' hT
    rw [oAnd_f hx] at hK
    refine lp_fall (b := b) (s := s + 1) (n := n) (m0 := m0) (k := k) (by omega) hT nc.nin nc.k90 (i3 hx) hs ?_
    intro m'' hm''
    have e : sHeld (E c S).2 b = (E c S).2 := sHeld_same (i4.trans hb)
    rw [e] at hm'' ⊢
    exact hK m'' hm'' (fun z => by rw [hx] at z; cases z)
  · intro hx m' hT hKP hR
    rw [oAnd_t hx] at hK
    exact h hx hK i1 (i2 hx).1 (i2 hx).2 (i4.trans hb) m' hT hKP hR
end SIM2
