/-! puts, sums, moves -/
def hPutRe (h : SH) (c : Int32) (r : UInt64) : SH := (h.1, h.2.1, h.2.2.1, h.2.2.2.1, h.2.2.2.2.1, x_up (hAm h) (ix c) (FP.d2l r), x_up (hRe h) (ix c) r)
set_option maxRecDepth 100000 in
set_option maxHeartbeats 1000000 in
theorem s_putReal {D : Nat} (hD : 1 ≤ D) {P : SP} {S : SS} {Q : xQ} (c : Int32) (r : UInt64) (hc : vp_in c 4000) (h : Q none (wC P (hPutRe S.1 c r, S.2))) : Cd D 22 [.ref 2, .int c, .double r] (wC P S) Q := by
  refine Cd.up hD ?_
  refine Cd.mk cdX2_putReal 4 0 2 [(0, .ref 2), (1, .int c), (2, .double r)] rfl rfl rfl rfl 1000 ?_
  refine And.intro hc ?_
  refine And.intro hc ?_
  exact h
/-- what a put puts, once it may -/
def hPut0 (h : SH) (t i k : Int32) (a : Int64) : SH :=
  bif decide (hTyEl h t = 6) then hPutRe h (hSt h (ix t) + i) (FP.f2d (FP.l2f a))
  else bif decide (hTyEl h t = 7) then hPutRe h (hSt h (ix t) + i) (FP.l2d a)
  else hSetAm h (x_up (hAm h) (ix (hSt h (ix t) + i)) (bif decide (k = 0) then nCut (hTyEl h t) a else a))
def hPut (h : SH) (t i k : Int32) (a : Int64) : Int32 × SH :=
  bif !hHasEl h t i then (2, h)
  else bif (tIsNum (hTyEl h t) != decide (k = 0)) then (9, h)
  else bif (decide (k = 2) && !tSub (hTypeOf h a.toInt32) (hTyEl h t)) then (3, h)
  else (0, hPut0 h t i k a)
def fOK1 : Prop := ∀ a : Int64, vf_n64 (FP.f2d (FP.l2f a))
set_option maxRecDepth 100000 in
set_option maxHeartbeats 1000000 in
theorem s_put_60 {d : Nat} (hd : 1 ≤ d) {P : SP} {S : SS} {Q : xQ} (hf : fOK1) (hh : hOK S.1) (t i k : Int32) (a : Int64) (he : hHasEl S.1 t i = true) (h : Q (some (.int 0)) (wC P (hPut0 S.1 t i k a, S.2))) : Ev (Cd d) cdX2_put Q 60 [(0, .ref 2), (1, .int t), (2, .int i), (3, .int k), (4, .long a), (6, .int (hTyEl S.1 t))] [] (wC P S) := by
  refine Ev.go (Cd.mono d) [] 100 ?_
  refine And.intro (hIsThing_in hh (hIsArray_thing (hHasEl_arr he))) ?_
  unfold hPut0 at h
  refine And.intro (fun h1 => ?_) (fun h1 => ?_)
  · refine And.intro (fun h2 => ?_) (fun h2 => ?_)
    · refine And.intro (fun h3 => ?_) (fun h3 => ?_)
      · refine And.intro (hCell_in hh he) ?_
        simp only [decide_eq_false h1, decide_eq_false h2, decide_eq_false h3, cond_false] at h
        exact h
      · refine s_cut (by omega) _ _ ?_
        refine And.intro (hCell_in hh he) ?_
        simp only [decide_eq_false h1, decide_eq_false h2, decide_eq_true h3, cond_false, cond_true] at h
        exact h
    · refine s_putReal (by omega) _ _ (hCell_in hh he) ?_
      simp only [decide_eq_false h1, decide_eq_true h2, cond_false, cond_true] at h
      exact h
  · refine And.intro (hf a) ?_
    refine s_putReal (by omega) _ _ (hCell_in hh he) ?_
    simp only [decide_eq_true h1, cond_true] at h
    exact h
set_option maxRecDepth 100000 in
set_option maxHeartbeats 1000000 in
theorem s_put_38 {d : Nat} (hd : 3 ≤ d) {P : SP} {S : SS} {Q : xQ} (hf : fOK1) (hh : hOK S.1) (t i k : Int32) (a : Int64) (he : hHasEl S.1 t i = true) (h : Q (some (.int (bif (decide (k = 2) && !tSub (hTypeOf S.1 a.toInt32) (hTyEl S.1 t)) then ((3 : Int32), S.1) else (0, hPut0 S.1 t i k a)).1)) (wC P ((bif (decide (k = 2) && !tSub (hTypeOf S.1 a.toInt32) (hTyEl S.1 t)) then ((3 : Int32), S.1) else (0, hPut0 S.1 t i k a)).2, S.2))) : Ev (Cd d) cdX2_put Q 38 [(0, .ref 2), (1, .int t), (2, .int i), (3, .int k), (4, .long a), (6, .int (hTyEl S.1 t))] [] (wC P S) := by
  refine Ev.go (Cd.mono d) [60] 100 ?_
  refine And.intro (fun h1 => ?_) (fun h1 => ?_)
  · simp only [decide_eq_false h1, Bool.false_and, cond_false] at h
    exact s_put_60 (by omega) hf hh t i k a he h
  · refine s_typeOf (by omega) hh _ ?_
    refine s_isSub (by omega) _ _ ?_
    refine And.intro (fun h2 => ?_) (fun h2 => ?_)
    · rw [bI_ne0] at h2
      simp only [decide_eq_true h1, h2, Bool.not_true, Bool.and_false, cond_false] at h
      exact s_put_60 (by omega) hf hh t i k a he h
    · rw [bI_eq0] at h2
      simp only [decide_eq_true h1, h2, Bool.not_false, Bool.and_true, cond_true] at h
      exact h
set_option maxRecDepth 100000 in
set_option maxHeartbeats 1000000 in
theorem s_put {D : Nat} (hD : 4 ≤ D) {P : SP} {S : SS} {Q : xQ} (hf : fOK1) (hh : hOK S.1) (t i k : Int32) (a : Int64) (h : Q (some (.int (hPut S.1 t i k a).1)) (wC P ((hPut S.1 t i k a).2, S.2))) : Cd D 16 [.ref 2, .int t, .int i, .int k, .long a] (wC P S) Q := by
  refine Cd.up hD ?_
  refine Cd.mk cdX2_put 8 0 4 [(0, .ref 2), (1, .int t), (2, .int i), (3, .int k), (4, .long a)] rfl rfl rfl rfl 0 ?_
  refine Ev.go (Cd.mono 3) [38] 100 ?_
  unfold hPut at h
  refine s_hasElement (by decide) hh t i ?_
  refine And.intro (fun h1 => ?_) (fun h1 => ?_)
  · rw [bI_ne0] at h1
    simp only [h1, Bool.not_true, cond_false] at h
    refine s_typeOfElements (by decide) hh t ?_
    refine s_isOfNumbers (by decide) _ ?_
    refine And.intro (fun h2 => ?_) (fun h2 => ?_)
    · refine And.intro (fun h3 => ?_) (fun h3 => ?_)
      · have h4 : tIsNum (hTyEl S.1 t) = false := bI_0 h3
        simp only [decide_eq_false h2, h4, bne_self_eq_false, cond_false] at h
        exact s_put_38 (by decide) hf hh t i k a h1 h
      · have h4 : tIsNum (hTyEl S.1 t) = true := bI_1 h3
        simp only [decide_eq_false h2, h4, Bool.true_bne, Bool.not_false, cond_true] at h
        exact h
    · refine And.intro (fun h3 => ?_) (fun h3 => ?_)
      · have h4 : tIsNum (hTyEl S.1 t) = true := by
          cases hz : tIsNum (hTyEl S.1 t)
          · rw [hz] at h3; exact absurd h3 (by decide)
          · rfl
        simp only [decide_eq_true h2, h4, bne_self_eq_false, cond_false] at h
        exact s_put_38 (by decide) hf hh t i k a h1 h
      · have h4 : tIsNum (hTyEl S.1 t) = false := by
          cases hz : tIsNum (hTyEl S.1 t)
          · rfl
          · rw [hz] at h3; exact absurd rfl h3
        simp only [decide_eq_true h2, h4, Bool.false_bne, cond_true] at h
        exact h
  · rw [bI_eq0] at h1
    simp only [h1, Bool.not_false, cond_true] at h
    exact h
def hSum0 (h : SH) (t i : Int32) (a : Int64) (r : UInt64) (m : Int64) : SH :=
  bif decide (hTyEl h t = 6) then hPutRe h (hSt h (ix t) + i) (FP.f2d (FP.fadd (FP.d2f r) (FP.l2f m)))
  else bif decide (hTyEl h t = 7) then hPutRe h (hSt h (ix t) + i) (FP.dadd r (FP.l2d m))
  else hSetAm h (x_up (hAm h) (ix (hSt h (ix t) + i)) (nCut (hTyEl h t) (a + m)))
def hSum (h : SH) (t i : Int32) (a : Int64) (r : UInt64) (m : Int64) : SH := bif !hHasEl h t i then h else hSum0 h t i a r m
/-- a float, a double to which a whole number may be added -/
def fOK6 (r : UInt64) (m : Int64) : Prop := vf_n32 (FP.d2f r) ∧ vf_n32 (FP.fadd (FP.d2f r) (FP.l2f m)) ∧ vf_n64 (FP.f2d (FP.fadd (FP.d2f r) (FP.l2f m)))
def fOK7 (r : UInt64) (m : Int64) : Prop := vf_n64 (FP.dadd r (FP.l2d m))
set_option maxRecDepth 100000 in
set_option maxHeartbeats 1000000 in
theorem s_putSum {D : Nat} (hD : 4 ≤ D) {P : SP} {S : SS} {Q : xQ} (hh : hOK S.1) (t i : Int32) (a : Int64) (r : UInt64) (m : Int64) (h6 : hTyEl S.1 t = 6 → fOK6 r m) (h7 : hTyEl S.1 t = 7 → fOK7 r m) (h : Q none (wC P (hSum S.1 t i a r m, S.2))) : Cd D 17 [.ref 2, .int t, .int i, .long a, .double r, .long m] (wC P S) Q := by
  refine Cd.up hD ?_
  refine Cd.mk cdX2_putSum 12 0 5 [(0, .ref 2), (1, .int t), (2, .int i), (3, .long a), (5, .double r), (7, .long m)] rfl rfl rfl rfl 1000 ?_
  unfold hSum at h
  refine s_hasElement (by decide) hh t i ?_
  refine And.intro (fun h1 => ?_) (fun h1 => ?_)
  · rw [bI_ne0] at h1
    simp only [h1, Bool.not_true, cond_false, hSum0] at h
    refine And.intro (hIsThing_in hh (hIsArray_thing (hHasEl_arr h1))) ?_
    refine s_typeOfElements (by decide) hh t ?_
    refine And.intro (fun g1 => ?_) (fun g1 => ?_)
    · refine And.intro (fun g2 => ?_) (fun g2 => ?_)
      · refine s_cut (by decide) _ _ ?_
        refine And.intro (hCell_in hh h1) ?_
        simp only [decide_eq_false g1, decide_eq_false g2, cond_false] at h
        exact h
      · refine And.intro (h7 g2) ?_
        refine s_putReal (by decide) _ _ (hCell_in hh h1) ?_
        simp only [decide_eq_false g1, decide_eq_true g2, cond_false, cond_true] at h
        exact h
    · refine And.intro (h6 g1).1 ?_
      refine And.intro (h6 g1).2.1 ?_
      refine And.intro (h6 g1).2.2 ?_
      refine s_putReal (by decide) _ _ (hCell_in hh h1) ?_
      simp only [decide_eq_true g1, cond_true] at h
      exact h
  · rw [bI_eq0] at h1
    simp only [h1, Bool.not_false, cond_true] at h
    exact h
def hHasEls (h : SH) (t s n : Int32) : Bool := hIsArray h t && (!decide (s < 0) && (!decide (n < 0) && !decide ((hLe h (ix t)).toInt64 < s.toInt64 + n.toInt64)))
set_option maxRecDepth 100000 in
set_option maxHeartbeats 1000000 in
theorem s_hasElements {D : Nat} (hD : 3 ≤ D) {P : SP} {S : SS} {Q : xQ} (hh : hOK S.1) (t s n : Int32) (h : Q (some (.int (bI (hHasEls S.1 t s n)))) (wC P S)) : Cd D 20 [.ref 2, .int t, .int s, .int n] (wC P S) Q := by
  refine Cd.up hD ?_
  refine Cd.mk cdX2_hasElements 4 0 3 [(0, .ref 2), (1, .int t), (2, .int s), (3, .int n)] rfl rfl rfl rfl 1000 ?_
  unfold hHasEls at h
  refine s_isArray (by decide) hh t ?_
  refine And.intro (fun h1 => ?_) (fun h1 => ?_)
  · rw [bI_eq0] at h1
    refine And.intro (Or.inl rfl) ?_
    simpa [bI, h1] using h
  · rw [bI_ne0] at h1
    refine And.intro (fun h2 => ?_) (fun h2 => ?_)
    · refine And.intro (Or.inl rfl) ?_
      simpa [bI, h1, h2] using h
    · refine And.intro (fun h3 => ?_) (fun h3 => ?_)
      · refine And.intro (Or.inl rfl) ?_
        simpa [bI, h1, h2, h3] using h
      · refine And.intro (hIsThing_in hh (hIsArray_thing h1)) ?_
        refine And.intro (fun h4 => ?_) (fun h4 => ?_)
        · rw [lc_gt] at h4
          refine And.intro (Or.inl rfl) ?_
          simp only [h1, decide_eq_false h2, decide_eq_false h3, decide_eq_true h4, Bool.not_true, Bool.not_false, Bool.and_false, Bool.and_true] at h
          exact h
        · rw [lc_gt] at h4
          refine And.intro (Or.inr rfl) ?_
          simp only [h1, decide_eq_false h2, decide_eq_false h3, decide_eq_false h4, Bool.not_false, Bool.and_true] at h
          exact h
def hFitAt (h : SH) (f s ty : Int32) (i : Nat) : Bool := decide ((hAmAt h f (s + nI i)).toInt32 = -1) || tSub (hTypeOf h (hAmAt h f (s + nI i)).toInt32) ty
/-- how many fit, from place i on, at most n more -/
def hFits (h : SH) (f s ty : Int32) : Nat → Nat → Nat
  | 0, i => i
  | n + 1, i => bif hFitAt h f s ty i then hFits h f s ty n (i + 1) else i
set_option maxRecDepth 100000 in
set_option maxHeartbeats 1000000 in
theorem s_countFitting_loop {d : Nat} (hd : 4 ≤ d) {P : SP} {S : SS} {Q : xQ} (hh : hOK S.1) (f s ty : Int32) (N : Nat) (hN : N < 2 ^ 31) : ∀ (n i : Nat), i + n = N → Q (some (.int (nI (hFits S.1 f s ty n i)))) (wC P S) → ∀ (ls : List (Nat × Value)), (ls = [] ∨ ∃ z : Int32, ls = [(6, .int z)]) → Ev (Cd d) cdX2_countFitting Q 3 ([(0, .ref 2), (1, .int f), (2, .int s), (3, .int (nI N)), (4, .int ty), (5, .int (nI i))] ++ ls) [] (wC P S)
  | 0, i, hi, h, ls, hls => by
    have hi : i = N := by omega
    subst hi
    refine Ev.go (Cd.mono d) [3] 100 ?_
    refine And.intro (fun _ => ?_) (fun h1 => absurd (Int32.le_refl _) h1)
    exact h
  | n + 1, i, hi, h, ls, hls => by
    have hi2 : ¬ nI N ≤ nI i := nI_ge (by omega) hN
    have key : ∀ z0 : List (Nat × Value), x_put1 ([(0, .ref 2), (1, .int f), (2, .int s), (3, .int (nI N)), (4, .int ty), (5, .int (nI i))] ++ ls) 6 (.int (hAmAt S.1 f (s + nI i)).toInt32) = [(0, .ref 2), (1, .int f), (2, .int s), (3, .int (nI N)), (4, .int ty), (5, .int (nI i))] ++ [(6, .int (hAmAt S.1 f (s + nI i)).toInt32)] := by
      intro _
      rcases hls with rfl | ⟨z, rfl⟩ <;> rfl
    refine Ev.go (Cd.mono d) [3, 21] 100 ?_
    refine And.intro (fun h1 => absurd h1 hi2) (fun _ => ?_)
    refine s_amountAt (by omega) hh _ _ ?_
    show Ev _ _ _ _ _ _ _
    rw [key []]
    refine Ev.go (Cd.mono d) [3] 100 ?_
    unfold hFits at h
    refine And.intro (fun h1 => ?_) (fun h1 => ?_)
    · simp only [hFitAt, decide_eq_true h1, Bool.true_or, cond_true] at h
      have ih := s_countFitting_loop hd hh f s ty N hN n (i + 1) (by omega) h [(6, .int (hAmAt S.1 f (s + nI i)).toInt32)] (Or.inr ⟨_, rfl⟩)
      rw [← nI_1] at ih
      exact ih
    · refine s_typeOf (by omega) hh _ ?_
      refine s_isSub (by omega) _ _ ?_
      refine And.intro (fun h2 => ?_) (fun h2 => ?_)
      · rw [bI_ne0] at h2
        simp only [hFitAt, h2, Bool.or_true, cond_true] at h
        have ih := s_countFitting_loop hd hh f s ty N hN n (i + 1) (by omega) h [(6, .int (hAmAt S.1 f (s + nI i)).toInt32)] (Or.inr ⟨_, rfl⟩)
        rw [← nI_1] at ih
        exact ih
      · rw [bI_eq0] at h2
        simp only [hFitAt, decide_eq_false h1, h2, Bool.or_false, cond_false] at h
        exact h
set_option maxRecDepth 100000 in
set_option maxHeartbeats 1000000 in
theorem s_countFitting {D : Nat} (hD : 5 ≤ D) {P : SP} {S : SS} {Q : xQ} (hh : hOK S.1) (f s n ty : Int32) (hn : 0 ≤ n.toInt) (h : Q (some (.int (nI (hFits S.1 f s ty (ix n) 0)))) (wC P S)) : Cd D 19 [.ref 2, .int f, .int s, .int n, .int ty] (wC P S) Q := by
  refine Cd.up hD ?_
  refine Cd.mk cdX2_countFitting 7 0 4 [(0, .ref 2), (1, .int f), (2, .int s), (3, .int n), (4, .int ty)] rfl rfl rfl rfl 0 ?_
  refine Ev.go (Cd.mono 4) [3] 100 ?_
  have hl := s_countFitting_loop (d := 4) (by decide) (P := P) hh f s ty (ix n) (by rw [ix_eq]; have := (i_rng n).2; omega) (ix n) 0 (Nat.zero_add _) h [] (Or.inl rfl)
  have hn2 : n = nI (ix n) := nI_toI hn
  rw [← hn2] at hl
  exact hl
def hMove (h : SH) (f s t p n : Int32) : Int32 × SH :=
  bif (hNums h t != hNums h f) || (hNums h t && !decide (hTyEl h t = hTyEl h f)) then (3, h)
  else bif !(hHasEls h f s n && hHasEls h t p n) then (2, h)
  else bif hNums h t then (0, hCpy h (hSt h (ix f) + s) (hSt h (ix t) + p) n)
  else (bif decide (nI (hFits h f s (hTyEl h t) (ix n) 0) = n) then 0 else 3, hCpy h (hSt h (ix f) + s) (hSt h (ix t) + p) (nI (hFits h f s (hTyEl h t) (ix n) 0)))
theorem i64_of (x : Int32) : x.toInt64.toInt = x.toInt := Int32.toInt_toInt64 x
theorem i64_add {a b : Int32} : (a.toInt64 + b.toInt64).toInt = a.toInt + b.toInt := by
  rw [Int64.toInt_add, i64_of, i64_of]
  have := i_rng a
  have := i_rng b
  exact Int.bmod_eq_of_le (by omega) (by omega)
theorem hHasEls_rng {h : SH} {t s n : Int32} (hh : hOK h) (he : hHasEls h t s n = true) : hIsArray h t = true ∧ 0 ≤ s.toInt ∧ 0 ≤ n.toInt ∧ s.toInt + n.toInt ≤ (hLe h (ix t)).toInt ∧ (hSt h (ix t) + s).toInt = (hSt h (ix t)).toInt + s.toInt ∧ 0 ≤ (hSt h (ix t)).toInt ∧ (hSt h (ix t)).toInt + s.toInt + n.toInt ≤ 4000 := by
  simp only [hHasEls, Bool.and_eq_true, Bool.not_eq_true', decide_eq_false_iff_not] at he
  obtain ⟨h1, h2, h3, h4⟩ := he
  have h0 : (0 : Int32).toInt = 0 := rfl
  have g2 := i_not_lt h2
  have g3 := i_not_lt h3
  rw [Int64.lt_iff_toInt_lt, i64_add, i64_of] at h4
  have hr := hArr_rng hh h1
  have h5 := hh.2.2.2.1
  refine ⟨h1, by omega, by omega, by omega, ?_, hr.1, by omega⟩
  exact i_add (by omega) (by omega)
theorem hFits_le {h : SH} {f s ty : Int32} : ∀ (n i : Nat), i ≤ hFits h f s ty n i ∧ hFits h f s ty n i ≤ i + n
  | 0, i => ⟨Nat.le_refl _, Nat.le_refl _⟩
  | n + 1, i => by
    unfold hFits
    cases hFitAt h f s ty i
    · simp only [cond_false]; omega
    · simp only [cond_true]
      have := hFits_le (h := h) (f := f) (s := s) (ty := ty) n (i + 1)
      omega
set_option maxRecDepth 100000 in
set_option maxHeartbeats 1000000 in
theorem s_move_88 {d : Nat} (hd : 1 ≤ d) {P : SP} {S : SS} {Q : xQ} (hh : hOK S.1) (f s t p n ty nb z : Int32) (hf : hHasEls S.1 f s n = true) (ht : hHasEls S.1 t p n = true) (hz : 0 ≤ z.toInt ∧ z.toInt ≤ n.toInt) (h : Q (some (.int (bif decide (z = n) then 0 else 3))) (wC P (hCpy S.1 (hSt S.1 (ix f) + s) (hSt S.1 (ix t) + p) z, S.2))) : Ev (Cd d) cdX2_move Q 88 [(0, .ref 2), (1, .int f), (2, .int s), (3, .int t), (4, .int p), (5, .int n), (6, .int ty), (7, .int nb), (8, .int z)] [] (wC P S) := by
  obtain ⟨a1, a2, a3, a4, a5, a6, a7⟩ := hHasEls_rng hh hf
  obtain ⟨b1, b2, b3, b4, b5, b6, b7⟩ := hHasEls_rng hh ht
  refine Ev.go (Cd.mono d) [] 100 ?_
  refine And.intro (hIsThing_in hh (hIsArray_thing a1)) ?_
  refine And.intro (hIsThing_in hh (hIsArray_thing b1)) ?_
  refine s_copyElements (by omega) _ _ _ ?_ ?_ hz.1 ?_ ?_ ?_
  · show 0 ≤ (hSt S.1 (ix f) + s).toInt
    omega
  · show 0 ≤ (hSt S.1 (ix t) + p).toInt
    omega
  · show (hSt S.1 (ix f) + s).toInt + z.toInt ≤ 4000
    omega
  · show (hSt S.1 (ix t) + p).toInt + z.toInt ≤ 4000
    omega
  · refine And.intro (fun h1 => ?_) (fun h1 => ?_)
    · simp only [decide_eq_false h1, cond_false] at h
      exact h
    · simp only [decide_eq_true h1, cond_true] at h
      exact h
set_option maxRecDepth 100000 in
set_option maxHeartbeats 1000000 in
theorem s_move_41 {d : Nat} (hd : 5 ≤ d) {P : SP} {S : SS} {Q : xQ} (hh : hOK S.1) (f s t p n : Int32) (h : Q (some (.int (bif !(hHasEls S.1 f s n && hHasEls S.1 t p n) then ((2 : Int32), S.1) else bif hNums S.1 t then (0, hCpy S.1 (hSt S.1 (ix f) + s) (hSt S.1 (ix t) + p) n) else (bif decide (nI (hFits S.1 f s (hTyEl S.1 t) (ix n) 0) = n) then 0 else 3, hCpy S.1 (hSt S.1 (ix f) + s) (hSt S.1 (ix t) + p) (nI (hFits S.1 f s (hTyEl S.1 t) (ix n) 0)))).1)) (wC P ((bif !(hHasEls S.1 f s n && hHasEls S.1 t p n) then ((2 : Int32), S.1) else bif hNums S.1 t then (0, hCpy S.1 (hSt S.1 (ix f) + s) (hSt S.1 (ix t) + p) n) else (bif decide (nI (hFits S.1 f s (hTyEl S.1 t) (ix n) 0) = n) then 0 else 3, hCpy S.1 (hSt S.1 (ix f) + s) (hSt S.1 (ix t) + p) (nI (hFits S.1 f s (hTyEl S.1 t) (ix n) 0)))).2, S.2))) : Ev (Cd d) cdX2_move Q 41 [(0, .ref 2), (1, .int f), (2, .int s), (3, .int t), (4, .int p), (5, .int n), (6, .int (hTyEl S.1 t)), (7, .int (bI (hNums S.1 t)))] [] (wC P S) := by
  refine Ev.go (Cd.mono d) [88] 100 ?_
  refine s_hasElements (by omega) hh _ _ _ ?_
  refine And.intro (fun h1 => ?_) (fun h1 => ?_)
  · rw [bI_eq0] at h1
    simp only [h1, Bool.false_and, Bool.not_false, cond_true] at h
    exact h
  · rw [bI_ne0] at h1
    refine s_hasElements (by omega) hh _ _ _ ?_
    refine And.intro (fun h2 => ?_) (fun h2 => ?_)
    · rw [bI_ne0] at h2
      simp only [h1, h2, Bool.and_self, Bool.not_true, cond_false] at h
      obtain ⟨a1, a2, a3, a4, a5, a6, a7⟩ := hHasEls_rng hh h1
      refine And.intro (fun h3 => ?_) (fun h3 => ?_)
      · rw [bI_eq0] at h3
        refine s_countFitting (by omega) hh _ _ _ _ a3 ?_
        simp only [h3, cond_false] at h
        refine s_move_88 (by omega) hh f s t p n _ _ _ h1 h2 ?_ h
        have hle := hFits_le (h := S.1) (f := f) (s := s) (ty := hTyEl S.1 t) (ix n) 0
        have hix : (ix n : Nat) = n.toInt.toNat := rfl
        generalize hFits S.1 f s (hTyEl S.1 t) (ix n) 0 = g at hle
        have := (i_rng n).2
        rw [nI_toInt (by omega)]
        omega
      · rw [bI_ne0] at h3
        simp only [h3, cond_true] at h
        refine s_move_88 (by omega) hh f s t p n _ _ n h1 h2 ⟨a3, Int.le_refl _⟩ ?_
        simp only [decide_true, cond_true]
        exact h
    · rw [bI_eq0] at h2
      simp only [h1, h2, Bool.and_false, Bool.not_false, cond_true] at h
      exact h
set_option maxRecDepth 100000 in
set_option maxHeartbeats 1000000 in
theorem s_move {D : Nat} (hD : 6 ≤ D) {P : SP} {S : SS} {Q : xQ} (hh : hOK S.1) (f s t p n : Int32) (h : Q (some (.int (hMove S.1 f s t p n).1)) (wC P ((hMove S.1 f s t p n).2, S.2))) : Cd D 18 [.ref 2, .int f, .int s, .int t, .int p, .int n] (wC P S) Q := by
  refine Cd.up hD ?_
  refine Cd.mk cdX2_move 9 0 5 [(0, .ref 2), (1, .int f), (2, .int s), (3, .int t), (4, .int p), (5, .int n)] rfl rfl rfl rfl 0 ?_
  refine Ev.go (Cd.mono 5) [41] 100 ?_
  unfold hMove at h
  refine s_typeOfElements (by decide) hh t ?_
  refine s_isOfNumbers (by decide) _ ?_
  refine s_holdsNumbers (by decide) hh f ?_
  refine And.intro (fun h1 => ?_) (fun h1 => ?_)
  · have h2 : (hNums S.1 t != hNums S.1 f) = true := by
      have h1 : ¬ bI (hNums S.1 t) = bI (hNums S.1 f) := h1
      rw [bI_inj] at h1
      simpa using h1
    simp only [h2, Bool.true_or, cond_true] at h
    exact h
  · have h2 : (hNums S.1 t != hNums S.1 f) = false := by
      have h1 : bI (hNums S.1 t) = bI (hNums S.1 f) := h1
      rw [bI_inj] at h1
      simpa using h1
    simp only [h2, Bool.false_or] at h
    refine And.intro (fun h3 => ?_) (fun h3 => ?_)
    · have h3 : hNums S.1 t = false := bI_0 h3
      refine s_move_41 (by decide) hh f s t p n ?_
      simp only [h3, Bool.false_and, cond_false] at h ⊢
      exact h
    · have h3 : hNums S.1 t = true := bI_1 h3
      refine s_typeOfElements (by decide) hh f ?_
      refine And.intro (fun h4 => ?_) (fun h4 => ?_)
      · refine s_move_41 (by decide) hh f s t p n ?_
        simp only [h3, decide_eq_true h4, Bool.not_true, Bool.and_false, cond_false] at h ⊢
        exact h
      · simp only [h3, decide_eq_false h4, Bool.not_false, Bool.and_true, cond_true] at h
        exact h
