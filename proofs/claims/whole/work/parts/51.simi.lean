/-! lengths, copies, loops over arrays -/
theorem uArr_eq {S : SS} {m : MS} {n : Int32} (hI : hInv S.1) (hR : RES S m) (hV : vOK S.1 (rK S.2.2) (rA S.2.2)) : uArr S m = (oArr S n).1 := by
  unfold uArr oArr
  by_cases hz : rK S.2.2 = 0
  · rw [decide_eq_true (hR.ref0 hz), dne hz (by decide), dne hz (by decide)]
    rfl
  · rw [decide_eq_false (show ¬ mRef m = 0 by rw [hR.ref1 hz]; exact ne10), hR.2]
    rcases vOK_ref hV hz with x | x
    · rw [decide_eq_true x.2.2, decide_eq_true x.1]
      rfl
    · obtain ⟨tt, ht, ha⟩ := x.2.2
      obtain ⟨f1, f2, f3, f4, f5⟩ := thing_facts hI ht
      rw [decide_eq_false x.2.1, dne x.1 (by decide), decide_eq_true x.1, ha, f1]
      unfold hIsArray
      rw [f4, f2]
      by_cases hl : hLe S.1 tt = -1
      · rw [decide_eq_true hl]; rfl
      · rw [decide_eq_false hl]; rfl
theorem oArr_F {S : SS} {n : Int32} (h : (oArr S n).1 = false) : oArr S n = (false, sFail S 9 n) := by
  unfold oArr at h ⊢
  cases hz : (decide (rK S.2.2 = 1) || (decide (rK S.2.2 = 2) && hIsArray S.1 (rA S.2.2).toInt32))
  · rfl
  · rw [hz] at h; cases h
theorem oArr_Te {S : SS} {n : Int32} (h : (oArr S n).1 = true) : oArr S n = (true, S) := by
  unfold oArr at h ⊢
  cases hz : (decide (rK S.2.2 = 1) || (decide (rK S.2.2 = 2) && hIsArray S.1 (rA S.2.2).toInt32))
  · rw [hz] at h; cases h
  · rfl
theorem m_warr {D : Nat} (hD : 2 ≤ D) {P : SP} {S : SS} {m : MS} {Q : xQ} (n : Int32) (hI : hInv S.1) (hR : RES S m) (hV : vOK S.1 (rK S.2.2) (rA S.2.2)) (hT : (oArr S n).1 = true → Q (some (.int 1)) (wM P S m)) (hF : (oArr S n).1 = false → Q (some (.int 0)) (wM P (sFail S 9 n) m)) : Cd D 128 [.ref 0, .int n] (wM P S m) Q := by
  refine m_wantsArray hD n ?_ ?_
  · intro h1 h2
    have hz : ¬ rK S.2.2 = 0 := fun z => h1 (hR.ref0 z)
    rcases vOK_ref hV hz with x | x
    · rw [hR.2] at h2; exact absurd x.2.2 h2
    · obtain ⟨tt, ht, ha⟩ := x.2.2
      obtain ⟨f1, f2, f3, f4, f5⟩ := thing_facts hI ht
      rw [hR.2, ha, f1]
      exact f3
  · rw [uArr_eq (n := n) hI hR hV]
    cases hz : (oArr S n).1
    · exact hF hz
    · exact hT hz
theorem cpy_step {α : Type} (f : Nat → α) {A B i : Nat} (h : A + i < B) : x_up (va_cpy f f A B i) (B + i) (va_cpy f f A B i (A + i)) = va_cpy f f A B (i + 1) := by
  funext j
  unfold x_up va_cpy
  by_cases hj : j = B + i
  · subst hj
    rw [if_pos rfl, if_neg (by omega), if_pos (by omega)]
    congr 1
    omega
  · rw [if_neg hj]
    by_cases h2 : B ≤ j ∧ j < B + i
    · rw [if_pos h2, if_pos (by omega)]
    · rw [if_neg h2, if_neg (by omega)]
theorem cpy_0 {α : Type} (f : Nat → α) (A B : Nat) : va_cpy f f A B 0 = f := by
  funext j
  unfold va_cpy
  rw [if_neg (by omega)]
set_option maxRecDepth 100000 in
set_option maxHeartbeats 1000000 in
theorem m_copy_loop {d : Nat} (hd : 1 ≤ d) {P : SP} {S : SS} {m : MS} {Q : xQ} (n T N : Int32) (h1 : SH) (A B L : Nat) (hT : vp_in T 400) (hN : vp_in N 400) (hA : hSt h1 (ix T) = nI A) (hB : hSt h1 (ix N) = nI B) (hL : hLe h1 (ix T) = nI L) (hAB : A + L ≤ B) (hBL : B + L ≤ 4000) (hdp : vp_in (mDeep m - 1) 100) (h : Q none (wM P (mGive (hCpy h1 (nI A) (nI B) (nI L), S.2) m 1 N.toInt64).1 (mGive (hCpy h1 (nI A) (nI B) (nI L), S.2) m 1 N.toInt64).2)) : ∀ (j i : Nat), i + j = L → Ev (Cd d) cdX8_copy Q 43 [(0, .ref 0), (1, .int n), (2, .int T), (3, .int N), (4, .int (nI i))] [] (wM P (hCpy h1 (nI A) (nI B) (nI i), S.2) m)
  | 0, i, hi => by
    have hi : i = L := by omega
    subst hi
    refine Ev.go (Cd.mono d) [43] 100 ?_
    refine And.intro hT ?_
    refine And.intro (fun _ => ?_) (fun z => absurd (by show hLe h1 (ix T) ≤ nI i; rw [hL]; exact Int32.le_refl _) z)
    refine m_give (S := (hCpy h1 (nI A) (nI B) (nI i), S.2)) (by omega) _ _ (Or.inr rfl) hdp ?_
    exact h
  | j + 1, i, hi => by
    have ih := m_copy_loop hd (S := S) (m := m) (Q := Q) (P := P) n T N h1 A B L hT hN hA hB hL hAB hBL hdp h j (i + 1) (by omega)
    have ea : ix (nI A) = A := ix_nI (by omega)
    have eb : ix (nI B) = B := ix_nI (by omega)
    have ei : ix (nI i) = i := ix_nI (by omega)
    have ei1 : ix (nI (i + 1)) = i + 1 := ix_nI (by omega)
    have eai : (hSt h1 (ix T) + nI i).toNatClampNeg = A + i := by rw [hA, nI_add]; exact ix_nI (by omega)
    have ebi : (hSt h1 (ix N) + nI i).toNatClampNeg = B + i := by rw [hB, nI_add]; exact ix_nI (by omega)
    have hina : vp_in (hSt h1 (ix T) + nI i) 4000 := by rw [hA, nI_add]; exact vp_in_nI (by omega) (by omega)
    have hinb : vp_in (hSt h1 (ix N) + nI i) 4000 := by rw [hB, nI_add]; exact vp_in_nI (by omega) (by omega)
    have es : hCpy h1 (nI A) (nI B) (nI (i + 1)) = (h1.1, h1.2.1, h1.2.2.1, h1.2.2.2.1, h1.2.2.2.2.1, x_up (va_cpy (hAm h1) (hAm h1) (ix (nI A)) (ix (nI B)) (ix (nI i))) (hSt h1 (ix N) + nI i).toNatClampNeg (va_cpy (hAm h1) (hAm h1) (ix (nI A)) (ix (nI B)) (ix (nI i)) (hSt h1 (ix T) + nI i).toNatClampNeg), x_up (va_cpy (hRe h1) (hRe h1) (ix (nI A)) (ix (nI B)) (ix (nI i))) (hSt h1 (ix N) + nI i).toNatClampNeg (va_cpy (hRe h1) (hRe h1) (ix (nI A)) (ix (nI B)) (ix (nI i)) (hSt h1 (ix T) + nI i).toNatClampNeg)) := by
      unfold hCpy
      rw [ea, eb, ei, ei1, eai, ebi, cpy_step _ (by omega), cpy_step _ (by omega)]
    rw [es, ← nI_1] at ih
    refine Ev.go (Cd.mono d) [43] 100 ?_
    refine And.intro hT ?_
    refine And.intro (fun z => absurd z (by show ¬ hLe h1 (ix T) ≤ nI i; rw [hL]; exact nI_ge (by omega) (by omega))) (fun _ => ?_)
    refine And.intro hN ?_
    refine And.intro hT ?_
    refine And.intro hina ?_
    refine And.intro hinb ?_
    refine And.intro hN ?_
    refine And.intro hT ?_
    refine And.intro hina ?_
    refine And.intro hinb ?_
    exact ih
set_option maxRecDepth 100000 in
set_option maxHeartbeats 1000000 in
theorem m_copy {D : Nat} (hD : 3 ≤ D) {P : SP} {S : SS} {m : MS} {Q : xQ} (n T : Int32) (hI : hInv S.1) (ha : hIsArray S.1 T = true) (hdp : vp_in (mDeep m - 1) 100) (hno : hCopy S.1 T = (-1, S.1) → Q none (wM P (sFail S 6 n) m)) (hyes : ∀ h', hCopy S.1 T = (hTh S.1, h') → Q none (wM P (mGive (h', S.2) m 1 (hTh S.1).toInt64).1 (mGive (h', S.2) m 1 (hTh S.1).toInt64).2)) : Cd D 139 [.ref 0, .int n, .int T] (wM P S m) Q := by
  obtain ⟨a1, a2, a3, a4, a5, a6, a7, a8, a9⟩ := arr_all hI ha
  obtain ⟨f1, f2, f3, f4, f5⟩ := thing_facts hI a2
  rw [← a1] at f3 f4
  have eT : hTypeOf S.1 T = hTy S.1 (ix T) := by unfold hTypeOf; rw [f4]; rfl
  have eL : hLenOf S.1 T = hLe S.1 (ix T) := by unfold hLenOf; rw [f4]; rfl
  have h16 := (hI.2.1 _ a2).2.2 a3
  have htA : tIsArr (hTy S.1 (ix T)) = true := by
    unfold tIsArr
    rw [f5, decide_eq_false (show ¬ hTy S.1 (ix T) < 16 from fun z => by have := i_lt z; have e : (16 : Int32).toInt = 16 := rfl; omega)]
    rfl
  have hh := hI.1
  have h0 := hh.1
  have hE0 := hh.2.2.1
  have hne : ¬ hTh S.1 = -1 := fun y => by rw [y] at h0; exact absurd h0 (by decide)
  unfold hCopy at hno hyes
  rw [eT, eL] at hno hyes
  refine Cd.up hD ?_
  refine Cd.mk cdX8_copy 5 4 2 [(0, .ref 0), (1, .int n), (2, .int T)] rfl rfl rfl rfl 0 ?_
  refine Ev.go (Cd.mono 2) [43] 100 ?_
  refine And.intro f3 ?_
  refine m_hasRoom (by decide) _ _ ?_
  cases hr : uRoom S.1 1 (hLe S.1 (ix T)).toInt64
  · refine And.intro (fun z => absurd rfl z) (fun _ => ?_)
    rw [hMA_F hh a8 hr] at hno
    refine m_fail (by decide) _ _ ?_
    exact hno rfl
  · refine And.intro (fun _ => ?_) (fun z => absurd z (by decide))
    obtain ⟨r1, r2⟩ := (uRoom_iff hh a8).mp hr
    rw [hMA_T hI htA a8 hr] at hyes
    simp only [decide_eq_false hne, cond_false] at hyes
    have hyes := hyes _ rfl
    have jk := hMA_keep (t := hTy S.1 (ix T)) (n := hLe S.1 (ix T)) hh
    rw [hMA_T hI htA a8 hr] at jk
    obtain ⟨kk1, kk2, kk3⟩ := jk.2 _ a2
    refine And.intro f3 ?_
    refine And.intro f3 ?_
    refine m_make (by decide) _ _ (vp_in_iff.mpr ⟨h0, i_lt r1⟩) hE0 (Or.inr ⟨a8, r2⟩) ?_
    have eA := nI_toI a7
    have eB := nI_toI hE0
    have eLL := nI_toI a8
    have hloop := m_copy_loop (d := 2) (Q := Q) (P := P) (S := S) (m := m) (by decide) n T (hTh S.1) (uMk S.1 (hTy S.1 (ix T)) (hLe S.1 (ix T))) (hSt S.1 (ix T)).toInt.toNat (hEl S.1).toInt.toNat (hLe S.1 (ix T)).toInt.toNat f3 (vp_in_iff.mpr ⟨h0, i_lt r1⟩) (by rw [← eA]; exact kk2) (by rw [← eB]; exact x_up_self _ _ _) (by rw [← eLL]; exact kk3) (by omega) (by omega) hdp (by rw [← eA, ← eB, ← eLL]; exact hyes) _ 0 (Nat.zero_add _)
    have e0 : hCpy (uMk S.1 (hTy S.1 (ix T)) (hLe S.1 (ix T))) (nI (hSt S.1 (ix T)).toInt.toNat) (nI (hEl S.1).toInt.toNat) (nI 0) = uMk S.1 (hTy S.1 (ix T)) (hLe S.1 (ix T)) := by
      unfold hCpy
      rw [show ix (nI 0) = 0 from rfl, cpy_0, cpy_0]
    rw [e0] at hloop
    exact hloop
section SIMI
variable {P : SP} {G : Int → UInt64 → Prop} {E : Int32 → SS → SO} {d : Nat} {n0 : Int32} {Q : xQ} {k : Nat} {m0 : MS} {n : Int32}
theorem lp_stepL {s b : Int32} {S : SS} {m : MS} (nc : NC P G E d n0 Q k m0 n) (t : TOP k m0 n s b S m) (hF : rF S.2.2 = 0) (hc : pC P (ix n) = 12 ∨ pC P (ix n) = 17) (h : ∀ Q' : xQ, (∀ S' m', Lp P d n0 Q S' m' → Q' none (wM P S' m')) → Cd 15 138 [.ref 0, .int n, .int s] (wM P S m) Q') : Lp P d n0 Q S m := by
  rcases hc with hc | hc
  · exact lp_step12 nc t hF hc h
  · exact lp_step17 nc t hF hc h
set_option maxRecDepth 100000 in
set_option maxHeartbeats 1000000 in
theorem sim_length {κ : Int} {S : SS} {m : MS} (nc : NC P G E d n0 Q k m0 n) (hI : Inv G κ S) (hF : rF S.2.2 = 0) (hH : (vH S.2.1).toInt ≤ HB P n) (t : TOP k m0 n 0 (vH S.2.1) S m) (hc : pC P (ix n) = 12 ∨ pC P (ix n) = 17) (hK : KO P d n0 Q k m0 (eWith P E n S)) : Lp P d n0 Q S m := by
  have hfit := pFit nc.wf nc.nd
  have hk1 := pKid nc.nd (show pIsNode (pPre P (ix n)) (pa P (ix n)) = true by rcases hc with hc | hc <;> rw [hc] at hfit <;> exact hfit)
  have hn := nc.nin
  have hn25 : ∀ s : Int32, pC P (ix n) = 25 → s ≠ 1 := fun s z => by rcases hc with hc | hc <;> exact absurd (hc.symm.trans z) (by decide)
  unfold eWith at hK
  refine lp_stepL nc t hF hc (fun Q' hQ => ?_)
  refine Cd.mk cdX8_stepLength 3 4 2 [(0, .ref 0), (1, .int n), (2, .int 0)] rfl rfl rfl rfl 100 ?_
  refine And.intro (fun z => absurd rfl z) (fun _ => ?_)
  refine And.intro hn ?_
  refine m_next (by decide) _ (pIsNode_in nc.wf.1 hk1.1) (t.deepin nc.k90) (t.d1 nc.k90).2 ?_
  refine hQ _ _ ?_
  refine lp_next nc t hI hF hk1.1 hk1.2 (HB_kid hk1.2 hH) rfl (fun z => hn25 _ z) hK ?_
  intro hx hK hI hF hV hvh m t hkp hR
  generalize (E (pa P (ix n)) S).2 = S1 at *
  obtain ⟨e1, e2⟩ := t.d1 nc.k90
  refine lp_stepL nc t hF hc (fun Q' hQ => ?_)
  refine Cd.mk cdX8_stepLength 3 4 2 [(0, .ref 0), (1, .int n), (2, .int 1)] rfl rfl rfl rfl 100 ?_
  refine And.intro (fun _ => ?_) (fun z => absurd z (by decide))
  refine m_warr (by decide) n hI.1 hR hV ?_ ?_
  · intro hT
    refine And.intro (fun z => absurd z ne10) (fun _ => ?_)
    rw [oArr_Te hT] at hK
    rcases oArr_T hT with h1 | ⟨h2, ha⟩
    · have hK : KO P d n0 Q k m0 (bif decide (rK S1.2.2 = 1) then (false, sFail S1 1 n) else bif decide (pC P (ix n) = 17) then oMade ((hCopy S1.1 (rA S1.2.2).toInt32).2, S1.2) n (hCopy S1.1 (rA S1.2.2).toInt32).1 else bif decide (pC P (ix n) = 21) then eEachL P E n (rA S1.2.2).toInt32 (hLenOf S1.1 (rA S1.2.2).toInt32) (ix (hLenOf S1.1 (rA S1.2.2).toInt32)) 0 S1 else (true, sGive S1 0 (hLenOf S1.1 (rA S1.2.2).toInt32).toInt64)) := hK
      rw [decide_eq_true h1, cond_true] at hK
      have hneg : mCame m < 0 := by
        rcases hV with x | x | x
        · rw [h1] at x; exact absurd x ne10
        · rw [hR.2, x.2]; decide
        · rw [h1] at x; exact absurd x.1 (by decide)
      refine And.intro (fun z => absurd hneg (by rw [lc_ge] at z; exact z)) (fun _ => ?_)
      refine m_fail (by decide) _ _ ?_
      exact hQ _ _ (lp_fail nc t hvh (fun z => hn25 _ z) (by decide) hK)
    · have hK : KO P d n0 Q k m0 (bif decide (rK S1.2.2 = 1) then (false, sFail S1 1 n) else bif decide (pC P (ix n) = 17) then oMade ((hCopy S1.1 (rA S1.2.2).toInt32).2, S1.2) n (hCopy S1.1 (rA S1.2.2).toInt32).1 else bif decide (pC P (ix n) = 21) then eEachL P E n (rA S1.2.2).toInt32 (hLenOf S1.1 (rA S1.2.2).toInt32) (ix (hLenOf S1.1 (rA S1.2.2).toInt32)) 0 S1 else (true, sGive S1 0 (hLenOf S1.1 (rA S1.2.2).toInt32).toInt64)) := hK
      rw [dne h2 (by decide), cond_false] at hK
      have hneg : ¬ mCame m < 0 := by
        rcases vOK_ref hV (by rw [h2]; decide) with x | x
        · rw [h2] at x; exact absurd x.1 (by decide)
        · rw [hR.2]; exact x.2.1
      obtain ⟨a1, a2, a3, a4, a5, a6, a7, a8, a9⟩ := arr_all hI.1 ha
      obtain ⟨f1, f2, f3, f4, f5⟩ := thing_facts hI.1 a2
      rw [← a1] at f3 f4
      have eT : hTypeOf S1.1 (rA S1.2.2).toInt32 = hTy S1.1 (ix (rA S1.2.2).toInt32) := by unfold hTypeOf; rw [f4]; rfl
      have eL : hLenOf S1.1 (rA S1.2.2).toInt32 = hLe S1.1 (ix (rA S1.2.2).toInt32) := by unfold hLenOf; rw [f4]; rfl
      refine And.intro (fun _ => ?_) (fun z => absurd (by rw [lc_ge]; exact hneg) z)
      refine And.intro hn ?_
      refine And.intro (fun h12 => ?_) (fun h12 => ?_)
      · have h17 : pC P (ix n) = 17 := hc.resolve_left h12
        rw [decide_eq_true h17, cond_true] at hK
        rw [← hR.2] at hK
        refine m_copy (by decide) n _ hI.1 (by rw [hR.2]; exact ha) e2 ?_ ?_
        · intro hcp
          rw [hcp] at hK
          exact hQ _ _ (lp_fail nc t hvh (fun z => hn25 _ z) (by decide) hK)
        · intro h' hcp
          rw [hcp] at hK
          have h0 := hI.1.1.1
          have hne : ¬ hTh S1.1 = -1 := fun y => by rw [y] at h0; exact absurd h0 (by decide)
          unfold oMade at hK
          rw [decide_eq_false hne, cond_false] at hK
          exact hQ _ _ (lp_give (S := (h', S1.2)) (kk := 2) nc (by exact t) hvh rfl hK)
      · have h12 : pC P (ix n) = 12 := h12
        rw [dne h12 (by decide), dne h12 (by decide), cond_false, cond_false, eL, ← hR.2] at hK
        rw [← hR.2] at f3
        refine And.intro f3 ?_
        refine m_number (by decide) _ e2 ?_
        exact hQ _ _ (lp_give nc t hvh rfl hK)
  · intro hT
    refine And.intro (fun _ => ?_) (fun z => absurd rfl z)
    rw [oArr_F hT] at hK
    exact hQ _ _ (lp_fail nc t hvh (fun z => hn25 _ z) (by decide) hK)
end SIMI
