set_option maxRecDepth 100000 in
set_option maxHeartbeats 1000000 in
theorem s_setVariable {D : Nat} (hD : 2 ≤ D) {P : SP} {S : SS} {Q : xQ} (v k : Int32) (a : Int64) (h : Q (some (.int 1)) (wC P (sVar S v k a))) : Cd D 61 [.ref 3, .int v, .int k, .long a] (wC P S) Q := by
  refine Cd.up hD ?_
  refine Cd.mk cdX6_setVariable 5 2 3 [(0, .ref 3), (1, .int v), (2, .int k), (3, .long a)] rfl rfl rfl rfl 1000 ?_
  unfold sVar at h
  refine s_isVariable (by decide) v ?_
  refine And.intro (fun h1 => ?_) (fun h1 => ?_)
  · rw [bI_eq0] at h1
    simp only [h1, cond_false] at h
    refine And.intro (Or.inr rfl) ?_
    exact h
  · rw [bI_ne0] at h1
    simp only [h1, cond_true] at h
    refine And.intro (isVar_in h1) ?_
    refine And.intro (isVar_in h1) ?_
    refine And.intro (Or.inr rfl) ?_
    exact h
set_option maxRecDepth 100000 in
set_option maxHeartbeats 1000000 in
theorem s_takeNote {D : Nat} (hD : 1 ≤ D) {P : SP} {S : SS} {Q : xQ} (hn : 0 ≤ (rT S.2.2).toInt) (n : Int32) (h : Q none (wC P (sNote S n))) : Cd D 60 [.ref 3, .int n] (wC P S) Q := by
  refine Cd.up hD ?_
  refine Cd.mk cdX6_takeNote 2 2 1 [(0, .ref 3), (1, .int n)] rfl rfl rfl rfl 1000 ?_
  unfold sNote at h
  refine And.intro (fun h1 => ?_) (fun h1 => ?_)
  · simp only [decide_eq_true h1, cond_true] at h
    exact h
  · simp only [decide_eq_false h1, cond_false] at h
    refine And.intro (vp_in_iff.mpr ⟨hn, by have := i_not_le h1; have h3 : (256 : Int32).toInt = 256 := rfl; show (rT S.2.2).toInt < 256; omega⟩) ?_
    exact h
def sCatch (S : SS) : SS := (S.1, S.2.1, (rK S.2.2, rA S.2.2, rF S.2.2, rW S.2.2, rN S.2.2, rT S.2.2, rC S.2.2 + 1))
def oTake (P : SP) (S : SS) (n : Int32) : SO :=
  bif decide (rF S.2.2 = 10) then (false, S)
  else bif !decide (rC S.2.2 < 40) then (false, sFail S 10 n)
  else (true, sFail (sVar (sCatch S) (pc' P (ix n)) 0 (rF S.2.2).toInt64) 0 (-1))
set_option maxRecDepth 100000 in
set_option maxHeartbeats 1000000 in
theorem s_takeFailure {D : Nat} (hD : 3 ≤ D) {P : SP} {S : SS} {Q : xQ} (n : Int32) (hn : vp_in n 80) (h : Q (some (.int (bI (oTake P S n).1))) (wC P (oTake P S n).2)) : Cd D 59 [.ref 3, .int n] (wC P S) Q := by
  refine Cd.up hD ?_
  refine Cd.mk cdX6_takeFailure 2 2 1 [(0, .ref 3), (1, .int n)] rfl rfl rfl rfl 1000 ?_
  unfold oTake at h
  refine And.intro (fun h1 => ?_) (fun h1 => ?_)
  · simp only [decide_eq_false h1, cond_false] at h
    refine And.intro (fun h2 => ?_) (fun h2 => ?_)
    · simp only [decide_eq_true h2, Bool.not_true, cond_false] at h
      refine And.intro hn ?_
      refine s_setVariable (S := sCatch S) (by decide) _ _ _ ?_
      refine And.intro (Or.inr rfl) ?_
      exact h
    · simp only [decide_eq_false h2, Bool.not_false, cond_true] at h
      refine s_fail (by decide) _ _ ?_
      refine And.intro (Or.inl rfl) ?_
      exact h
  · simp only [decide_eq_true h1, cond_true] at h
    refine And.intro (Or.inl rfl) ?_
    exact h
def sHold (S : SS) : SS := (S.1, (vK S.2.1, vA S.2.1, vT S.2.1, x_up (vHK S.2.1) (ix (vH S.2.1)) (rK S.2.2), x_up (vHA S.2.1) (ix (vH S.2.1)) (rA S.2.2), vH S.2.1 + 1), S.2.2)
def oHold (S : SS) (n : Int32) : SO := bif !decide (vH S.2.1 < 1600) then (false, sFail S 10 n) else (true, sHold S)
set_option maxRecDepth 100000 in
set_option maxHeartbeats 1000000 in
theorem s_hold {D : Nat} (hD : 2 ≤ D) {P : SP} {S : SS} {Q : xQ} (hv : 0 ≤ (vH S.2.1).toInt) (n : Int32) (h : Q (some (.int (bI (oHold S n).1))) (wC P (oHold S n).2)) : Cd D 62 [.ref 3, .int n] (wC P S) Q := by
  refine Cd.up hD ?_
  refine Cd.mk cdX6_hold 2 2 1 [(0, .ref 3), (1, .int n)] rfl rfl rfl rfl 1000 ?_
  unfold oHold at h
  refine And.intro (fun h1 => ?_) (fun h1 => ?_)
  · simp only [decide_eq_true h1, Bool.not_true, cond_false] at h
    have hi : vp_in (vH S.2.1) 1600 := vp_in_iff.mpr ⟨hv, by have := i_lt h1; have h3 : (1600 : Int32).toInt = 1600 := rfl; show (vH S.2.1).toInt < 1600; omega⟩
    refine And.intro hi ?_
    refine And.intro hi ?_
    refine And.intro (Or.inr rfl) ?_
    exact h
  · simp only [decide_eq_false h1, Bool.not_false, cond_true] at h
    refine s_fail (by decide) _ _ ?_
    refine And.intro (Or.inl rfl) ?_
    exact h
def oPut (S : SS) (n t i : Int32) : SO := bif decide ((hPut S.1 t i (rK S.2.2) (rA S.2.2)).1 = 0) then (true, ((hPut S.1 t i (rK S.2.2) (rA S.2.2)).2, S.2)) else (false, sFail ((hPut S.1 t i (rK S.2.2) (rA S.2.2)).2, S.2) (hPut S.1 t i (rK S.2.2) (rA S.2.2)).1 n)
set_option maxRecDepth 100000 in
set_option maxHeartbeats 1000000 in
theorem s_wput {D : Nat} (hD : 5 ≤ D) {P : SP} {S : SS} {Q : xQ} (hf : fOK1) (hh : hOK S.1) (n t i : Int32) (h : Q (some (.int (bI (oPut S n t i).1))) (wC P (oPut S n t i).2)) : Cd D 64 [.ref 3, .int n, .int t, .int i] (wC P S) Q := by
  refine Cd.up hD ?_
  refine Cd.mk cdX6_put 5 2 3 [(0, .ref 3), (1, .int n), (2, .int t), (3, .int i)] rfl rfl rfl rfl 1000 ?_
  unfold oPut at h
  refine s_put (by decide) hf hh _ _ _ _ ?_
  refine And.intro (fun h1 => ?_) (fun h1 => ?_)
  · simp only [decide_eq_true h1, cond_true] at h
    refine And.intro (Or.inr rfl) ?_
    exact h
  · simp only [decide_eq_false h1, cond_false] at h
    refine s_fail (S := ((hPut S.1 t i (rK S.2.2) (rA S.2.2)).2, S.2)) (by decide) _ _ ?_
    refine And.intro (fun _ => ?_) (fun h3 => absurd rfl h3)
    refine And.intro (Or.inl rfl) ?_
    exact h
/-- what is at a place of an array may be added to -/
def fElOK (h : SH) (t i : Int32) (m : Int64) : Prop := (hTyEl h t = 6 → fOK6 (hReAt h t i) m) ∧ (hTyEl h t = 7 → fOK7 (hReAt h t i) m)
def oStep (S : SS) (n t i : Int32) : SO := bif !(oAdd S n t).1 then oAdd S n t else (true, (hSum S.1 t i (hAmAt S.1 t i) (hReAt S.1 t i) 1, (sGiveEl S t i).2))
set_option maxRecDepth 100000 in
set_option maxHeartbeats 1000000 in
theorem s_wstep {D : Nat} (hD : 7 ≤ D) {P : SP} {S : SS} {Q : xQ} (hh : hOK S.1) (n t i : Int32) (hf : fElOK S.1 t i 1) (h : Q (some (.int (bI (oStep S n t i).1))) (wC P (oStep S n t i).2)) : Cd D 65 [.ref 3, .int n, .int t, .int i] (wC P S) Q := by
  refine Cd.up hD ?_
  refine Cd.mk cdX6_step 4 2 3 [(0, .ref 3), (1, .int n), (2, .int t), (3, .int i)] rfl rfl rfl rfl 1000 ?_
  unfold oStep at h
  refine s_wantAddable (by decide) hh _ _ ?_
  refine And.intro (fun h1 => ?_) (fun h1 => ?_)
  · rw [bI_ne0] at h1
    simp only [h1, Bool.not_true, cond_false] at h
    have h2 : (oAdd S n t).2 = S := by
      unfold oAdd at h1 ⊢
      cases hz : (hNums S.1 t && !decide (hTyEl S.1 t = 0))
      · rw [hz] at h1; cases h1
      · rfl
    rw [h2]
    have h3 : hNums S.1 t = true := by
      unfold oAdd at h1
      cases hz : hNums S.1 t
      · rw [hz] at h1; cases h1
      · rfl
    have h4 : hKindAt S.1 t i = 0 := by unfold hKindAt; rw [h3]; rfl
    have h5 : sGiveEl S t i = sGive S 0 (hAmAt S.1 t i) := by unfold sGiveEl; rw [h4]
    rw [h5] at h
    refine s_amountAt (by decide) hh _ _ ?_
    refine s_giveNumber (by decide) _ ?_
    refine s_realAt (S := sGive S 0 (hAmAt S.1 t i)) (by decide) hh _ _ ?_
    refine s_putSum (S := sGive S 0 (hAmAt S.1 t i)) (by decide) hh _ _ _ _ _ hf.1 hf.2 ?_
    refine And.intro (Or.inr rfl) ?_
    exact h
  · rw [bI_eq0] at h1
    simp only [h1, Bool.not_false, cond_true] at h
    refine And.intro (Or.inl rfl) ?_
    exact h
/-- n values held from b on are put into m, from place i on -/
def oGather (S : SS) (n m b : Int32) : Nat → Nat → SO
  | 0, _ => (true, sGive S 2 m.toInt64)
  | k + 1, i => bif decide (1600 ≤ b + nI i) then (true, sGive S 2 m.toInt64) else bif !(oPut (sGive S (vHK S.2.1 (ix (b + nI i))) (vHA S.2.1 (ix (b + nI i)))) n m (nI i)).1 then oPut (sGive S (vHK S.2.1 (ix (b + nI i))) (vHA S.2.1 (ix (b + nI i)))) n m (nI i) else oGather (oPut (sGive S (vHK S.2.1 (ix (b + nI i))) (vHA S.2.1 (ix (b + nI i)))) n m (nI i)).2 n m b k (i + 1)
theorem hPut_OK {h : SH} {t i k : Int32} {a : Int64} (hh : hOK h) : hOK (hPut h t i k a).2 := by
  unfold hPut hPut0
  cases (!hHasEl h t i)
  · cases (tIsNum (hTyEl h t) != decide (k = 0))
    · cases (decide (k = 2) && !tSub (hTypeOf h a.toInt32) (hTyEl h t))
      · cases (decide (hTyEl h t = 6))
        · cases (decide (hTyEl h t = 7))
          · exact hh
          · exact hh
        · exact hh
      · exact hh
    · exact hh
  · exact hh
theorem oPut_OK {S : SS} {n t i : Int32} (hh : hOK S.1) : hOK (oPut S n t i).2.1 := by
  unfold oPut
  cases (decide ((hPut S.1 t i (rK S.2.2) (rA S.2.2)).1 = 0))
  · exact hPut_OK hh
  · exact hPut_OK hh
set_option maxRecDepth 100000 in
set_option maxHeartbeats 1000000 in
theorem s_gather_loop {d : Nat} (hd : 5 ≤ d) {P : SP} {Q : xQ} (hf : fOK1) (n m b : Int32) (N : Nat) (hN : N < 2 ^ 30) (hb : 0 ≤ b.toInt ∧ b.toInt ≤ 1600) : ∀ (k i : Nat) (S : SS), i + k = N → hOK S.1 → Q (some (.int (bI (oGather S n m b k i).1))) (wC P (oGather S n m b k i).2) → Ev (Cd d) cdX6_gather Q 36 [(0, .ref 3), (1, .int n), (2, .int b), (3, .int (nI N)), (4, .int m), (5, .int (nI i))] [] (wC P S)
  | 0, i, S, hi, hh, h => by
    have hi : i = N := by omega
    subst hi
    refine Ev.go (Cd.mono d) [36] 100 ?_
    refine And.intro (fun _ => ?_) (fun h1 => absurd (Int32.le_refl _) h1)
    refine s_give (by omega) _ _ ?_
    refine And.intro (Or.inr rfl) ?_
    exact h
  | k + 1, i, S, hi, hh, h => by
    refine Ev.go (Cd.mono d) [36] 100 ?_
    refine And.intro (fun h1 => absurd h1 (nI_ge (by omega) (by omega))) (fun _ => ?_)
    unfold oGather at h
    refine And.intro (fun h1 => ?_) (fun h1 => ?_)
    · simp only [decide_eq_true h1, cond_true] at h
      refine s_give (by omega) _ _ ?_
      refine And.intro (Or.inr rfl) ?_
      exact h
    · simp only [decide_eq_false h1, cond_false] at h
      have e1 : (nI i).toInt = (i : Int) := nI_toInt (by omega)
      have e2 : (b + nI i).toInt = b.toInt + (i : Int) := by rw [i_add] <;> omega
      have e3 : (1600 : Int32).toInt = 1600 := rfl
      have h2 := i_not_le h1
      have hin : vp_in (b + nI i) 1600 := vp_in_iff.mpr ⟨by omega, by omega⟩
      refine And.intro hin ?_
      refine And.intro hin ?_
      refine s_give (by omega) _ _ ?_
      refine s_wput (S := sGive S (vHK S.2.1 (ix (b + nI i))) (vHA S.2.1 (ix (b + nI i)))) (by omega) hf hh _ _ _ ?_
      refine And.intro (fun h3 => ?_) (fun h3 => ?_)
      · rw [bI_ne0] at h3
        simp only [h3, Bool.not_true, cond_false] at h
        have ih := s_gather_loop hd hf n m b N hN hb k (i + 1) _ (by omega) (oPut_OK (S := sGive S (vHK S.2.1 (ix (b + nI i))) (vHA S.2.1 (ix (b + nI i)))) hh) h
        rw [← nI_1] at ih
        exact ih
      · rw [bI_eq0] at h3
        simp only [h3, Bool.not_false, cond_true] at h
        refine And.intro (Or.inl rfl) ?_
        exact h
def oGath (P : SP) (S : SS) (n b len : Int32) : SO := bif decide ((hMA S.1 (pa P (ix n)) len).1 = -1) then (false, sFail ((hMA S.1 (pa P (ix n)) len).2, S.2) 6 n) else oGather ((hMA S.1 (pa P (ix n)) len).2, S.2) n (hMA S.1 (pa P (ix n)) len).1 b (ix len) 0
set_option maxRecDepth 100000 in
set_option maxHeartbeats 1000000 in
theorem s_gather {D : Nat} (hD : 6 ≤ D) {P : SP} {S : SS} {Q : xQ} (hf : fOK1) (hh : hOK S.1) (n b len : Int32) (hn : vp_in n 80) (hb : 0 ≤ b.toInt ∧ b.toInt ≤ 1600) (h : Q (some (.int (bI (oGath P S n b len).1))) (wC P (oGath P S n b len).2)) : Cd D 63 [.ref 3, .int n, .int b, .int len] (wC P S) Q := by
  refine Cd.up hD ?_
  refine Cd.mk cdX6_gather 6 2 3 [(0, .ref 3), (1, .int n), (2, .int b), (3, .int len)] rfl rfl rfl rfl 0 ?_
  refine Ev.go (Cd.mono 5) [36] 100 ?_
  unfold oGath at h
  refine And.intro hn ?_
  refine s_makeArray (by decide) hh _ _ ?_
  refine And.intro (fun h1 => ?_) (fun h1 => ?_)
  · simp only [decide_eq_false h1, cond_false] at h
    obtain ⟨g1, g2, g3, g4, g5, g6, g7⟩ := hMA_made hh h1
    have hl : len = nI (ix len) := nI_toI g1
    have := s_gather_loop (d := 5) (by decide) (P := P) hf n (hMA S.1 (pa P (ix n)) len).1 b (ix len) (by rw [ix_eq]; have := hh.2.2.1; omega) hb (ix len) 0 ((hMA S.1 (pa P (ix n)) len).2, S.2) (Nat.zero_add _) (hMA_OK hh) h
    rw [← hl] at this
    exact this
  · simp only [decide_eq_true h1, cond_true] at h
    refine s_fail (S := ((hMA S.1 (pa P (ix n)) len).2, S.2)) (by decide) _ _ ?_
    refine And.intro (Or.inl rfl) ?_
    exact h
def sKept (S : SS) (i : Int32) : Int32 := bif (decide (i < 0) || (decide (rT S.2.2 ≤ i) || decide (256 ≤ i))) then -2 else vT S.2.1 (ix i)
set_option maxRecDepth 100000 in
set_option maxHeartbeats 1000000 in
theorem s_kept {D : Nat} (hD : 1 ≤ D) {P : SP} {S : SS} {Q : xQ} (i : Int32) (h : Q (some (.int (sKept S i))) (wC P S)) : Cd D 47 [.ref 3, .int i] (wC P S) Q := by
  refine Cd.up hD ?_
  refine Cd.mk cdX6_kept 2 2 1 [(0, .ref 3), (1, .int i)] rfl rfl rfl rfl 1000 ?_
  unfold sKept at h
  refine And.intro (fun h1 => ?_) (fun h1 => ?_)
  · simp only [decide_eq_true h1, Bool.true_or, cond_true] at h
    exact h
  · refine And.intro (fun h2 => ?_) (fun h2 => ?_)
    · simp only [decide_eq_true h2, Bool.true_or, Bool.or_true, cond_true] at h
      exact h
    · refine And.intro (fun h3 => ?_) (fun h3 => ?_)
      · simp only [decide_eq_true h3, Bool.or_true, cond_true] at h
        exact h
      · simp only [decide_eq_false h1, decide_eq_false h2, decide_eq_false h3, Bool.or_false, cond_false] at h
        refine And.intro (vp_in_iff.mpr ⟨by have := i_not_lt h1; have h4 : (0 : Int32).toInt = 0 := rfl; omega, by have := i_not_le h3; have h4 : (256 : Int32).toInt = 256 := rfl; omega⟩) ?_
        exact h
