/-! VARIED -/
def mSetHR (m : MS) (i : Nat) (r : Int32) : MS := ((mRef m, mCame m, mIsRef m, x_up (mHRef m) i r), m.2)
section SIMQ
variable {P : SP} {G : Int → UInt64 → Prop} {E : Int32 → SS → SO} {d : Nat} {n0 : Int32} {Q : xQ} {k : Nat} {m0 : MS} {n : Int32}
theorem lp_giveH {s b kk r : Int32} {v : Int64} {S : SS} {m : MS} (nc : NC P G E d n0 Q k m0 n) (t : TOP k m0 n s b S m) (hr : r = bI (!decide (kk = 0))) (hK : KO P d n0 Q k m0 (true, sGive (sHeld S b) kk v)) : Lp P d n0 Q (mGive S m r v).1 (mGive S m r v).2 := by
  have e : mBase m (ix (mDeep m - 1)) = b := by rw [(t.d1 nc.k90).1]; exact t.2.2.2.2.2
  unfold mGive
  rw [e]
  refine hK _ ⟨t.1, ?_, t.2.2.1⟩ (fun _ => ⟨hr, rfl⟩)
  show mDeep m - 1 = _
  rw [t.2.1, nI_s1]
theorem lp_failH {s b c : Int32} {S : SS} {m : MS} (nc : NC P G E d n0 Q k m0 n) (t : TOP k m0 n s b S m) (hs : pC P (ix n) = 25 → s ≠ 1) (hc : 0 < c.toInt) (hK : KO P d n0 Q k m0 (false, sFail (sHeld S b) c n)) : Lp P d n0 Q (sFail S c n) m := by
  have hd := nc.deep
  refine lp_fall (b := b) (s := s) (n := n) (m0 := m0) (k := k) (by omega) t nc.nin nc.k90 hc hs ?_
  intro m' hm'
  exact hK m' hm' (fun z => by cases z)
set_option maxRecDepth 100000 in
set_option maxHeartbeats 1000000 in
theorem gath_at (nc : NC P G E d n0 Q k m0 n) (hc : pC P (ix n) = 22) {L q : Nat} {b s : Int32} {κ : Int} (hL : L ≤ 80) (hb0 : 0 ≤ b.toInt ∧ b.toInt + L ≤ 1600) : ∀ (j i : Nat) (S : SS) (m : MS), i + j = L → TOP k m0 n s b S m → Inv G κ S → (q : Int) < (hTh S.1).toInt → hLe S.1 q = nI L → KO P d n0 Q k m0 (oGather (sHeld S b) n (nI q) b j i) → ∀ Q' : xQ, (∀ S' m', Lp P d n0 Q S' m' → Q' none (wM P S' m')) → Ev (Cd 14) cdX8_stepVaried Q' 202 [(0, .ref 0), (1, .int n), (2, .int s), (3, .int (mDeep m - 1)), (4, .int (nI L)), (5, .int (nI q)), (6, .int 0), (7, .int (nI i))] [] (wM P S m)
  | 0, i, S, m, hi, t, hI, hq, hle, hK, Q', hQ => by
    obtain ⟨e1, e2⟩ := t.d1 nc.k90
    have hi : i = L := by omega
    subst hi
    have hK : KO P d n0 Q k m0 (true, sGive (sHeld S b) 2 (nI q).toInt64) := hK
    refine Ev.go (Cd.mono 14) [] 100 ?_
    refine And.intro (fun _ => ?_) (fun z => absurd (Int32.le_refl _) z)
    refine And.intro (fun _ => ?_) (fun z => absurd (Int32.le_refl _) z)
    refine m_give (by decide) _ _ (Or.inr rfl) e2 ?_
    exact hQ _ _ (lp_giveH nc t rfl hK)
  | j + 1, i, S, m, hi, t, hI, hq, hle, hK, Q', hQ => by
    obtain ⟨e1, e2⟩ := t.d1 nc.k90
    have hn25 : ∀ s : Int32, pC P (ix n) = 25 → s ≠ 1 := fun s z => absurd (hc.symm.trans z) (by decide)
    have ebs : mBase m (ix (mDeep m - 1)) = b := by rw [e1]; exact t.2.2.2.2.2
    have h400 := hI.1.1.2.1
    have eq : ix (nI q) = q := ix_nI (by omega)
    have hiI : (nI i).toInt = i := nI_toInt (by omega)
    have hbi : (b + nI i).toInt = b.toInt + i := by rw [i_add (by omega) (by omega)]; omega
    have hin : vp_in (mBase m (ix (mDeep m - 1)) + nI i) 8000 := by rw [ebs]; exact vp_in_iff.mpr ⟨by omega, by omega⟩
    have hne : ¬ hLe S.1 q = -1 := by rw [hle]; exact nI_ne rfl (by omega)
    have hlt : ¬ (1600 : Int32) ≤ b + nI i := by
      rw [Int32.le_iff_toInt_le]
      show ¬ (1600 : Int) ≤ (b + nI i).toInt
      omega
    unfold oGather at hK
    rw [decide_eq_false hlt, cond_false] at hK
    have hrel : mHRef m (ix (b + nI i)) = bI (!decide (vHK S.2.1 (ix (b + nI i)) = 0)) := t.1.2 _
    have hvv := hI.2.2.1 (ix (b + nI i))
    have hK : KO P d n0 Q k m0 (bif !(oPut (sGive (sHeld S b) (vHK S.2.1 (ix (b + nI i))) (vHA S.2.1 (ix (b + nI i)))) n (nI q) (nI i)).1 then oPut (sGive (sHeld S b) (vHK S.2.1 (ix (b + nI i))) (vHA S.2.1 (ix (b + nI i)))) n (nI q) (nI i) else oGather (oPut (sGive (sHeld S b) (vHK S.2.1 (ix (b + nI i))) (vHA S.2.1 (ix (b + nI i)))) n (nI q) (nI i)).2 n (nI q) b j (i + 1)) := hK
    have hr01 : mHRef m (ix (b + nI i)) = 0 ∨ mHRef m (ix (b + nI i)) = 1 := by rw [hrel]; exact bI01 _
    have zT : (nI q).toInt64.toInt32 = nI q := Int32.toInt32_toInt64 _
    have zI : (nI i).toInt64.toInt32 = nI i := Int32.toInt32_toInt64 _
    have zq : ix (nI q).toInt64.toInt32 = q := by rw [zT]; exact eq
    have htop : TOP k m0 n s b (sGive S (vHK S.2.1 (ix (b + nI i))) (vHA S.2.1 (ix (b + nI i)))) (mSetR m (mHRef m (ix (b + nI i))) (vHA S.2.1 (ix (b + nI i)))) := t
    have hI' : Inv G κ (sGive S (vHK S.2.1 (ix (b + nI i))) (vHA S.2.1 (ix (b + nI i)))) := hI
    generalize hkk : vHK S.2.1 (ix (b + nI i)) = kk at *
    generalize haa : vHA S.2.1 (ix (b + nI i)) = aa at *
    refine Ev.go (Cd.mono 14) [202] 100 ?_
    refine And.intro (fun z => absurd z (nI_ge (by omega) (by omega))) (fun _ => ?_)
    refine And.intro (fun z => absurd rfl z) (fun _ => ?_)
    refine And.intro e2 ?_
    refine And.intro hin ?_
    rw [ebs]
    refine And.intro hr01 ?_
    refine And.intro e2 ?_
    rw [ebs] at hin ⊢
    refine And.intro hin ?_
    rw [show (b + nI i).toNatClampNeg = ix (b + nI i) from rfl, haa]
    refine m_put (S := sGive S kk aa) (m := mSetR m (mHRef m (ix (b + nI i))) aa) (by decide) nc.f1 nc.fc hI.1 ⟨hrel, rfl⟩ hvv _ _ (by rw [zT, eq]) (by rw [zq]; exact hq) (by rw [zq]; exact hne) (by rw [zI]; omega) (by rw [zI, zq]; show (nI i).toInt < (hLe S.1 q).toInt; rw [hle, nI_toInt (n := L) (by omega)]; omega) ?_ ?_
    · intro c hc0 hp
      rw [zT, zI] at hp
      have hc1 : ¬ c = 0 := fun z => by rw [z] at hc0; exact absurd hc0 (by decide)
      have hK2 : oPut (sGive (sHeld S b) kk aa) n (nI q) (nI i) = (false, sFail (sGive (sHeld S b) kk aa) c n) := by
        unfold oPut
        have hp : hPut (sGive (sHeld S b) kk aa).1 (nI q) (nI i) (rK (sGive (sHeld S b) kk aa).2.2) (rA (sGive (sHeld S b) kk aa).2.2) = (c, S.1) := hp
        rw [hp]
        rw [decide_eq_false hc1]
        rfl
      rw [hK2] at hK
      have hfin : Q' none (wM P (sFail (sGive S kk aa) c n) (mSetR m (mHRef m (ix (b + nI i))) aa)) := hQ _ _ (lp_failH nc htop (fun z => hn25 _ z) hc0 hK)
      refine Ev.go (Cd.mono 14) [268] 100 ?_
      have h268 : Ev (Cd 14) cdX8_stepVaried Q' 268 [(0, .ref 0), (1, .int n), (2, .int s), (3, .int (mDeep m - 1)), (4, .int (nI L)), (5, .int (nI q)), (6, .int c), (7, .int (nI i + 1))] [] (wM P (sGive S kk aa) (mSetR m (mHRef m (ix (b + nI i))) aa)) := by
        refine Ev.go (Cd.mono 14) [] 100 ?_
        refine And.intro (fun z => absurd (i_le z) (by show ¬ c.toInt ≤ 0; omega)) (fun _ => ?_)
        refine m_fail (S := sGive S kk aa) (m := mSetR m (mHRef m (ix (b + nI i))) aa) (by decide) _ _ ?_
        exact hfin
      refine And.intro (fun _ => ?_) (fun _ => ?_)
      · exact h268
      · refine And.intro (fun _ => ?_) (fun z => absurd z hc1)
        exact h268
    · intro hnum hp
      rw [zT, zI] at hp
      have hK2 : oPut (sGive (sHeld S b) kk aa) n (nI q) (nI i) = (true, sHeld (hPut0 S.1 (nI q) (nI i) kk aa, (sGive S kk aa).2) b) := by
        unfold oPut
        have hp : hPut (sGive (sHeld S b) kk aa).1 (nI q) (nI i) (rK (sGive (sHeld S b) kk aa).2.2) (rA (sGive (sHeld S b) kk aa).2.2) = (0, hPut0 S.1 (nI q) (nI i) kk aa) := hp
        rw [hp]
        rfl
      have hK3 : oPut (sGive S kk aa) n (nI q) (nI i) = (true, (hPut0 S.1 (nI q) (nI i) kk aa, (sGive S kk aa).2)) := by
        unfold oPut
        have hp : hPut (sGive S kk aa).1 (nI q) (nI i) (rK (sGive S kk aa).2.2) (rA (sGive S kk aa).2.2) = (0, hPut0 S.1 (nI q) (nI i) kk aa) := hp
        rw [hp]
        rfl
      have hRp := RR_put (S := sGive S kk aa) (b := vH S.2.1) (n := n) (t := nI q) (i := nI i) nc.go hI' rfl hvv
      rw [hK3] at hRp
      rw [hK2] at hK
      have hK : KO P d n0 Q k m0 (oGather (sHeld (hPut0 S.1 (nI q) (nI i) kk aa, (sGive S kk aa).2) b) n (nI q) b j (i + 1)) := hK
      rw [zT, zI]
      have ih := gath_at (s := s) nc hc hL hb0 j (i + 1) (hPut0 S.1 (nI q) (nI i) kk aa, (sGive S kk aa).2) (mSetR (mSetR m (mHRef m (ix (b + nI i))) aa) (mHRef m (ix (b + nI i))) (hAm (hPut0 S.1 (nI q) (nI i) kk aa) (ix (hSt S.1 (ix (nI q)) + nI i)))) (by omega) (by exact t) hRp.1 (Int.lt_of_lt_of_le hq hRp.2.2.2.1.1) ((hRp.2.2.2.1.2 q hq).2.2.trans hle) hK Q' hQ
      rw [← nI_1] at ih
      exact ih
def VAr (P : SP) (G : Int → UInt64 → Prop) (E : Int32 → SS → SO) (d : Nat) (n0 : Int32) (Q : xQ) (k : Nat) (m0 : MS) (n : Int32) (L : Nat) (b s : Int32) (κ : Int) (j i : Nat) (S : SS) (m : MS) : Prop :=
  i + j = L ∧ TOP k m0 n s b S m ∧ Inv G κ S ∧ rF S.2.2 = 0 ∧ vH S.2.1 = b + nI i ∧ mIndex m k = nI i ∧ (L = 1 → j = 0 → RES S m ∧ vOK S.1 (rK S.2.2) (rA S.2.2)) ∧ KO P d n0 Q k m0 (eVaryL P E n b j i S)
set_option maxRecDepth 100000 in
set_option maxHeartbeats 1000000 in
theorem vary_end (nc : NC P G E d n0 Q k m0 n) (hc : pC P (ix n) = 22) (ht : tIsArr (pa P (ix n)) = true) {L : Nat} {b s : Int32} {κ : Int} (hL : pLen P (pb P (ix n)) = nI L) (hL80 : L ≤ 80) (hb0 : 0 ≤ b.toInt ∧ b.toInt + L ≤ 1600) {S : SS} {m : MS} (h : VAr P G E d n0 Q k m0 n L b s κ 0 L S m) (Q' : xQ) (hQ : ∀ S' m', Lp P d n0 Q S' m' → Q' none (wM P S' m')) : Ev (Cd 14) cdX8_stepVaried Q' 109 [(0, .ref 0), (1, .int n), (2, .int s), (3, .int (mDeep m - 1)), (4, .int (nI L))] [] (wM P S m) := by
  obtain ⟨hi, t, hI, hF, hb, hix, hres, hK⟩ := h
  obtain ⟨e1, e2⟩ := t.d1 nc.k90
  have hn := nc.nin
  have hn25 : ∀ s : Int32, pC P (ix n) = 25 → s ≠ 1 := fun s z => absurd (hc.symm.trans z) (by decide)
  have hh := hI.1.1
  have hLi : (nI L).toInt = L := nI_toInt (by omega)
  have hK : KO P d n0 Q k m0 (oVary P n b (sHeld S b)) := hK
  unfold oVary at hK
  rw [hL] at hK
  have hgath : KO P d n0 Q k m0 (oGath P (sHeld S b) n b (nI L)) → Ev (Cd 14) cdX8_stepVaried Q' 163 [(0, .ref 0), (1, .int n), (2, .int s), (3, .int (mDeep m - 1)), (4, .int (nI L))] [] (wM P S m) := by
    intro hK
    unfold oGath at hK
    have hK : KO P d n0 Q k m0 (bif decide ((hMA S.1 (pa P (ix n)) (nI L)).1 = -1) then (false, sFail ((hMA S.1 (pa P (ix n)) (nI L)).2, (sHeld S b).2) 6 n) else oGather ((hMA S.1 (pa P (ix n)) (nI L)).2, (sHeld S b).2) n (hMA S.1 (pa P (ix n)) (nI L)).1 b (ix (nI L)) 0) := hK
    refine Ev.go (Cd.mono 14) [202] 100 ?_
    refine m_hasRoom (by decide) _ _ ?_
    cases hr : uRoom S.1 1 (nI L).toInt64
    · refine And.intro (fun z => absurd rfl z) (fun _ => ?_)
      rw [hMA_F hh (by omega) hr] at hK
      refine m_fail (by decide) _ _ ?_
      exact hQ _ _ (lp_failH nc t (fun z => hn25 _ z) (by decide) hK)
    · refine And.intro (fun _ => ?_) (fun z => absurd z (by decide))
      obtain ⟨r1, r2⟩ := (uRoom_iff hh (by omega)).mp hr
      rw [hMA_T hI.1 ht (by omega) hr] at hK
      have h0 := hh.1
      have h4 := hh.2.1
      have hne := hTh_ne h0
      rw [decide_eq_false hne, cond_false, ix_nI (k := L) (by omega)] at hK
      have hTn := nI_toI h0
      obtain ⟨k1, k2⟩ := hInv_mk hI.1 r1 (Or.inr ⟨ht, (by omega : 0 ≤ (nI L).toInt), r2⟩)
      have jk := hMA_keep (t := pa P (ix n)) (n := nI L) hh
      have j3 := (hInv_MA hI.1 (n := nI L) ht).2.2
      rw [hMA_T hI.1 ht (by omega) hr] at jk j3
      have hI2 := RR_heap hI k1 jk (fun j => ⟨j, by rw [j3]⟩)
      refine And.intro hn ?_
      refine m_make (by decide) _ _ (vp_in_iff.mpr ⟨h0, i_lt r1⟩) hh.2.2.1 (Or.inr ⟨by omega, r2⟩) ?_
      have e4 : nI (ix (hTh S.1)) = hTh S.1 := hTn.symm
      have egT := ix_eq (hTh S.1)
      have key := gath_at (q := ix (hTh S.1)) (κ := κ) (s := s) nc hc hL80 hb0 L 0 (uMk S.1 (pa P (ix n)) (nI L), S.2) m (Nat.zero_add _) (by exact t) hI2 (by show _ < (hTh (uMk S.1 (pa P (ix n)) (nI L))).toInt; omega) (by exact uMk_new.2) (by rw [e4]; exact hK) Q' hQ
      rw [e4] at key
      exact key
  refine Ev.go (Cd.mono 14) [163] 100 ?_
  refine And.intro (fun h1 => ?_) (fun h1 => ?_)
  · have h1 : ¬ nI L = 1 := h1
    rw [decide_eq_false h1, Bool.false_and, cond_false] at hK
    exact hgath hK
  · have h1 : nI L = 1 := h1
    have hL1 : L = 1 := by
      have := congrArg Int32.toInt h1
      rw [hLi] at this
      have e : (1 : Int32).toInt = 1 := rfl
      omega
    obtain ⟨hR, hV⟩ := hres hL1 rfl
    rw [decide_eq_true h1, Bool.true_and] at hK
    have hK : KO P d n0 Q k m0 (bif (decide (rK S.2.2 = 1) || sIsOf S (pa P (ix n))) then (true, sHeld S b) else oGath P (sHeld S b) n b (nI L)) := hK
    by_cases hz : rK S.2.2 = 0
    · have hr := hR.ref0 hz
      refine And.intro (fun _ => ?_) (fun z => absurd hr z)
      unfold sIsOf at hK
      rw [dne hz (by decide), dne hz (by decide)] at hK
      simp only [Bool.false_and, Bool.or_false, cond_false] at hK
      exact hgath hK
    · have hr := hR.ref1 hz
      refine And.intro (fun z => absurd (hr.symm.trans z) ne10) (fun _ => ?_)
      have hgive : KO P d n0 Q k m0 (true, sHeld S b) → Lp P d n0 Q (mGive S m 1 (mCame m)).1 (mGive S m 1 (mCame m)).2 := by
        intro hK
        refine lp_giveH (kk := rK S.2.2) nc t (by rw [decide_eq_false hz]; rfl) ?_
        rw [hR.2]
        exact hK
      rcases vOK_ref hV hz with x | x
      · have hneg : mCame m < 0 := by rw [hR.2]; exact x.2.2
        rw [decide_eq_true x.1, Bool.true_or, cond_true] at hK
        refine And.intro (fun _ => ?_) (fun z => absurd (by rw [lc_lt]; exact hneg) z)
        refine m_give (by decide) _ _ (Or.inr rfl) e2 ?_
        exact hQ _ _ (hgive hK)
      · have hneg : ¬ mCame m < 0 := by rw [hR.2]; exact x.2.1
        obtain ⟨tt, htt, ha⟩ := x.2.2
        obtain ⟨f1, f2, f3⟩ := vOK_two (ty := pa P (ix n)) hI.1 htt x.1 ha
        rw [dne x.1 (by decide), Bool.false_or, f3] at hK
        rw [← hR.2] at f1 f2 hK
        refine And.intro (fun z => absurd (by rw [lc_lt] at z; exact z) hneg) (fun _ => ?_)
        refine And.intro f1 ?_
        refine And.intro hn ?_
        refine m_isSub (by decide) _ _ (tIsType_rng f2) (tIsType_rng (tIsArr_T ht).1) ?_
        refine And.intro (fun z => ?_) (fun z => ?_)
        · rw [bI_eq0] at z
          have hK : KO P d n0 Q k m0 (bif tSub (hTy S.1 (ix (mCame m).toInt32)) (pa P (ix n)) then (true, sHeld S b) else oGath P (sHeld S b) n b (nI L)) := hK
          rw [z, cond_false] at hK
          exact hgath hK
        · rw [bI_ne0] at z
          have hK : KO P d n0 Q k m0 (bif tSub (hTy S.1 (ix (mCame m).toInt32)) (pa P (ix n)) then (true, sHeld S b) else oGath P (sHeld S b) n b (nI L)) := hK
          rw [z, cond_true] at hK
          refine m_give (by decide) _ _ (Or.inr rfl) e2 ?_
          exact hQ _ _ (hgive hK)
set_option maxRecDepth 100000 in
set_option maxHeartbeats 1000000 in
theorem vary_at (nc : NC P G E d n0 Q k m0 n) (hc : pC P (ix n) = 22) (ht : tIsArr (pa P (ix n)) = true) {L : Nat} {b : Int32} {κ : Int} (hL : pLen P (pb P (ix n)) = nI L) (hL80 : L ≤ 80) (hb0 : 0 ≤ b.toInt ∧ b.toInt + L ≤ 1600) (hLN : pIsLN P (pb P (ix n)) = true) (hLt : pIsList P (pb P (ix n)) = true → (pb P (ix n)).toInt < n.toInt) (hLl : 0 < L → pIsList P (pb P (ix n)) = true) (hLc : L ≤ cntL P (ix (pN P))) (hH : b.toInt ≤ HB P n) : ∀ (j i : Nat) (s : Int32) (S : SS) (m : MS), VAr P G E d n0 Q k m0 n L b s κ j i S m → ∀ Q' : xQ, (∀ S' m', Lp P d n0 Q S' m' → Q' none (wM P S' m')) → Ev (Cd 14) cdX8_stepVaried Q' 70 [(0, .ref 0), (1, .int n), (2, .int s), (3, .int (mDeep m - 1)), (4, .int (nI L))] [] (wM P S m)
  | 0, i, s, S, m, h, Q', hQ => by
    have hi : i = L := by have := h.1; omega
    subst hi
    obtain ⟨e1, e2⟩ := h.2.1.d1 nc.k90
    have eix : mIndex m (ix (mDeep m - 1)) = nI i := by rw [e1]; exact h.2.2.2.2.2.1
    refine Ev.go (Cd.mono 14) [109] 100 ?_
    refine And.intro e2 ?_
    refine And.intro (fun _ => ?_) (fun z => absurd (by show nI i ≤ mIndex m (ix (mDeep m - 1)); rw [eix]; exact Int32.le_refl _) z)
    exact vary_end nc hc ht hL hL80 hb0 h Q' hQ
  | j + 1, i, s, S, m, ⟨hi, t, hI, hF, hb, hix, hres, hK⟩, Q', hQ => by
    obtain ⟨e1, e2⟩ := t.d1 nc.k90
    have hn := nc.nin
    have hn25 : ∀ s : Int32, pC P (ix n) = 25 → s ≠ 1 := fun s z => absurd (hc.symm.trans z) (by decide)
    have eix : mIndex m (ix (mDeep m - 1)) = nI i := by rw [e1]; exact hix
    have hls := hLl (by omega)
    have hi1 : 0 ≤ (nI i).toInt := by rw [nI_toInt (by omega)]; omega
    have hi2 : (nI i).toInt < (pLen P (pb P (ix n))).toInt := by rw [hL, nI_toInt (by omega), nI_toInt (by omega)]; omega
    obtain ⟨c1, c2⟩ := pNth_node nc.wf hls hi1 hi2
    have c3 : (pNth P (pb P (ix n)) (nI i)).toInt < n.toInt := by have := hLt hls; omega
    have hiI : (nI i).toInt = i := nI_toInt (by omega)
    have hbi : (b + nI i).toInt = b.toInt + i := by rw [i_add (by omega) (by omega)]; omega
    have hstep := HB_step nc.wf c3 nc.nd hc
    have hHc : (vH S.2.1).toInt ≤ HB P (pNth P (pb P (ix n)) (nI i)) := by rw [hb, hbi]; omega
    unfold eVaryL at hK
    have hend : Lp P d n0 Q (mNext P S (mSetStage m (ix (mDeep m - 1)) 0) (pNth P (pb P (ix n)) (nI i))).1 (mNext P S (mSetStage m (ix (mDeep m - 1)) 0) (pNth P (pb P (ix n)) (nI i))).2 := by
      rw [e1]
      have ex0 := nc.ex _ c1 c3 κ S hI hF
      have hd := nc.deep
      refine lp_next0 nc (TOP.stage' t 0) hI hF c1 c3 hHc ?_ ?_
      · intro hx m' hT
        rw [oAnd_f hx, hx] at hK
        have hK : KO P d n0 Q k m0 (false, sHeld (E (pNth P (pb P (ix n)) (nI i)) S).2 b) := hK
        refine lp_fall (b := b) (s := 0 + 1) (n := n) (m0 := m0) (k := k) (by omega) hT nc.nin nc.k90 (ex0.2.2.1 hx) (fun z => hn25 _ z) ?_
        intro m'' hm''
        exact hK m'' hm'' (fun z => by cases z)
      · intro hx m1 t1 hkp1 hR1
        obtain ⟨i1, i2, i3, i4, i5, i6⟩ := ex0
        obtain ⟨hF1, hV1⟩ := i2 hx
        rw [oAnd_t hx] at hK
        generalize (E (pNth P (pb P (ix n)) (nI i)) S).2 = S1 at *
        have hvh1 : vH S1.2.1 = b + nI i := i4.trans hb
        have hlt : vH S1.2.1 < 1600 := by
          rw [hvh1, Int32.lt_iff_toInt_lt]
          show (b + nI i).toInt < (1600 : Int)
          omega
        have hold : oHold S1 n = (true, sHold S1) := by unfold oHold; rw [decide_eq_true hlt]; rfl
        rw [hold] at hK
        have hK : KO P d n0 Q k m0 (eVaryL P E n b j (i + 1) (sHold S1)) := hK
        obtain ⟨y1, y2⟩ := t1.d1 nc.k90
        have hvin : vp_in (vH S1.2.1) 8000 := by rw [hvh1]; exact vp_in_iff.mpr ⟨by omega, by omega⟩
        have yix : mIndex m1 (ix (mDeep m1 - 1)) = nI i := by rw [y1]; exact hkp1.1.trans hix
        refine lp_step22 nc t1 hF1 hc (fun Q2 hQ2 => ?_)
        refine Cd.mk cdX8_stepVaried 8 4 2 [(0, .ref 0), (1, .int n), (2, .int 1)] rfl rfl rfl rfl 0 ?_
        refine Ev.go (Cd.mono 14) [70] 100 ?_
        refine And.intro hn ?_
        refine m_many (by decide) nc.wf _ hLN ?_
        rw [hL]
        refine And.intro (fun z => absurd rfl z) (fun _ => ?_)
        refine And.intro hvin ?_
        refine And.intro hvin ?_
        refine And.intro y2 ?_
        refine And.intro y2 ?_
        have ih := vary_at (κ := κ) nc hc ht hL hL80 hb0 hLN hLt hLl hLc hH j (i + 1) 1 (sHold S1) (mSetIndex (mSetHR m1 (ix (vH S1.2.1)) (mRef m1 &&& 1)) (ix (mDeep m1 - 1)) (mIndex m1 (ix (mDeep m1 - 1)) + 1)) ?_ Q2 hQ2
        · unfold sHold at ih
          rw [← hR1.2] at ih
          exact ih
        · refine ⟨by omega, ?_, Inv_hold i1 hV1 hlt, hF1, ?_, ?_, ?_, hK⟩
          · rw [y1]
            refine TOP.index (s := 1) (S := sHold S1) (m := mSetHR m1 (ix (vH S1.2.1)) (mRef m1 &&& 1)) ⟨⟨t1.1.1, ?_⟩, t1.2⟩ _
            rw [hR1.1, bI_and]
            exact rel_up t1.1.2 _ _
          · show vH S1.2.1 + 1 = _
            rw [hvh1, ← nI_1, Int32.add_assoc]
          · show x_up (mIndex m1) (ix (mDeep m1 - 1)) (mIndex m1 (ix (mDeep m1 - 1)) + 1) k = _
            rw [yix, y1, x_up_self, nI_1]
          · intro _ _
            exact ⟨hR1, hV1⟩
    refine Ev.go (Cd.mono 14) [109] 100 ?_
    refine And.intro e2 ?_
    refine And.intro (fun z => absurd z (by show ¬ nI L ≤ mIndex m (ix (mDeep m - 1)); rw [eix]; exact nI_ge (by omega) (by omega))) (fun _ => ?_)
    refine And.intro e2 ?_
    refine And.intro hn ?_
    refine And.intro e2 ?_
    rw [eix]
    refine m_nodeOf (S := S) (m := mSetStage m (ix (mDeep m - 1)) 0) (by decide) nc.wf _ _ hls hi1 hi2 ?_
    refine m_next (S := S) (m := mSetStage m (ix (mDeep m - 1)) 0) (by decide) _ (pIsNode_in nc.wf.1 c1) (t.deepin nc.k90) e2 ?_
    exact hQ _ _ hend
set_option maxRecDepth 100000 in
set_option maxHeartbeats 1000000 in
theorem sim_22 {κ : Int} {S : SS} {m : MS} (nc : NC P G E d n0 Q k m0 n) (hI : Inv G κ S) (hF : rF S.2.2 = 0) (hH : (vH S.2.1).toInt ≤ HB P n) (t : TOP k m0 n 0 (vH S.2.1) S m) (hx0 : mIndex m k = 0) (hc : pC P (ix n) = 22) (hK : KO P d n0 Q k m0 (eVaried P E n S)) : Lp P d n0 Q S m := by
  have hfit := pFit nc.wf nc.nd
  rw [hc] at hfit
  obtain ⟨g1, g2⟩ := Bool.and_eq_true_iff.mp (show (tIsArr (pa P (ix n)) && pIsLN (pPre P (ix n)) (pb P (ix n))) = true from hfit)
  obtain ⟨l1, l2, l3, l4, l5⟩ := pList_of nc.wf nc.nd g2
  have hL := nI_toI l3
  have hn := nc.nin
  have hlist : 0 < (pLen P (pb P (ix n))).toInt.toNat → pIsList P (pb P (ix n)) = true := fun z => l5.resolve_left (fun y => by rw [y] at z; exact absurd z (by decide))
  have hLc : (pLen P (pb P (ix n))).toInt.toNat ≤ cntL P (ix (pN P)) := by
    rcases l5 with y | y
    · rw [y]; exact Nat.zero_le _
    · have := pLen_L nc.wf y; omega
  have hv0 := hI.2.2.2.1.1
  have hb16 : (vH S.2.1).toInt + (pLen P (pb P (ix n))).toInt.toNat ≤ 1600 := by
    rcases l5 with y | y
    · have := hI.2.2.2.1.2
      rw [y]
      show _ + (0 : Int) ≤ 1600
      omega
    · have h1 := HB_step nc.wf (l2 y) nc.nd hc
      have h2 := HB_1600 nc.wf (pb P (ix n))
      omega
  unfold eVaried at hK
  refine lp_step22 nc t hF hc (fun Q' hQ => ?_)
  refine Cd.mk cdX8_stepVaried 8 4 2 [(0, .ref 0), (1, .int n), (2, .int 0)] rfl rfl rfl rfl 0 ?_
  refine Ev.go (Cd.mono 14) [70] 100 ?_
  refine And.intro hn ?_
  refine m_many (by decide) nc.wf _ l1 ?_
  refine And.intro (fun _ => ?_) (fun z => absurd z (by decide))
  have key := vary_at (κ := κ) nc hc g1 hL (by omega) ⟨hv0, hb16⟩ l1 l2 hlist hLc hH (pLen P (pb P (ix n))).toInt.toNat 0 0 S m ⟨Nat.zero_add _, t, hI, hF, by rw [nI_0, Int32.add_zero], hx0, (fun z y => absurd (z.symm.trans y) (by decide)), hK⟩ Q' hQ
  rw [← hL] at key
  exact key
end SIMQ
