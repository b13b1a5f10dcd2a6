/-! the class's heap: room, makings of arrays in arrays, copies, puts, moves -/
def hRoom2 (tl el : Int64) : Bool := !decide (tl < 0) && !decide (el < 0)
def hRoom1 (tl el n : Int64) (t : Int32) : Bool := bif (decide (t = -1) || decide (el < 0)) then hRoom2 tl el else hRoom2 (tl - n) (el - n * t.toInt64)
def hRoom (h : SH) (f s t : Int32) : Bool := bif (decide (s = -1) || decide ((4000 - hEl h - f).toInt64 < 0)) then hRoom1 (400 - hTh h - 1).toInt64 (4000 - hEl h - f).toInt64 f.toInt64 t else hRoom1 ((400 - hTh h - 1).toInt64 - f.toInt64) ((4000 - hEl h - f).toInt64 - f.toInt64 * s.toInt64) (f.toInt64 * s.toInt64) t
set_option maxRecDepth 100000 in
set_option maxHeartbeats 1000000 in
theorem s_hasRoom_92 {d : Nat} {w : xW} {Q : xQ} (f s t : Int32) (tl el n : Int64) (h : Q (some (.int (bI (hRoom2 tl el)))) w) : Ev (Cd d) cdX2_hasRoom Q 92 [(0, .ref 2), (1, .int f), (2, .int s), (3, .int t), (4, .long tl), (6, .long el), (8, .long n)] [] w := by
  refine Ev.go (Cd.mono d) [] 100 ?_
  unfold hRoom2 at h
  refine And.intro (fun h1 => ?_) (fun h1 => ?_)
  · rw [lc_lt] at h1
    refine And.intro (Or.inl rfl) ?_
    simpa [bI, h1] using h
  · rw [lc_lt] at h1
    refine And.intro (fun h2 => ?_) (fun h2 => ?_)
    · rw [lc_lt] at h2
      refine And.intro (Or.inl rfl) ?_
      simpa [bI, h1, h2] using h
    · rw [lc_lt] at h2
      refine And.intro (Or.inr rfl) ?_
      simpa [bI, h1, h2] using h
set_option maxRecDepth 100000 in
set_option maxHeartbeats 1000000 in
theorem s_hasRoom_63 {d : Nat} {w : xW} {Q : xQ} (f s t : Int32) (tl el n : Int64) (h : Q (some (.int (bI (hRoom1 tl el n t)))) w) : Ev (Cd d) cdX2_hasRoom Q 63 [(0, .ref 2), (1, .int f), (2, .int s), (3, .int t), (4, .long tl), (6, .long el), (8, .long n)] [] w := by
  refine Ev.go (Cd.mono d) [92] 100 ?_
  unfold hRoom1 at h
  refine And.intro (fun h1 => ?_) (fun h1 => ?_)
  · exact s_hasRoom_92 f s t tl el n (by simpa [h1] using h)
  · refine And.intro (fun h2 => ?_) (fun h2 => ?_)
    · rw [lc_lt] at h2
      exact s_hasRoom_92 f s t tl el n (by simpa [h1, h2] using h)
    · rw [lc_lt] at h2
      exact s_hasRoom_92 f s t _ _ _ (by simpa [h1, h2] using h)
set_option maxRecDepth 100000 in
set_option maxHeartbeats 1000000 in
theorem s_hasRoom {D : Nat} (hD : 1 ≤ D) {P : SP} {S : SS} {Q : xQ} (f s t : Int32) (h : Q (some (.int (bI (hRoom S.1 f s t)))) (wC P S)) : Cd D 24 [.ref 2, .int f, .int s, .int t] (wC P S) Q := by
  refine Cd.up hD ?_
  refine Cd.mk cdX2_hasRoom 10 0 3 [(0, .ref 2), (1, .int f), (2, .int s), (3, .int t)] rfl rfl rfl rfl 0 ?_
  refine Ev.go (Cd.mono 0) [63] 100 ?_
  unfold hRoom at h
  refine And.intro (fun h1 => ?_) (fun h1 => ?_)
  · simp only [decide_eq_true h1, Bool.true_or, cond_true] at h
    exact s_hasRoom_63 f s t _ _ _ h
  · refine And.intro (fun h2 => ?_) (fun h2 => ?_)
    · rw [lc_lt] at h2
      simp only [decide_eq_true h2, Bool.or_true, cond_true] at h
      exact s_hasRoom_63 f s t _ _ _ h
    · rw [lc_lt] at h2
      simp only [decide_eq_false h1, decide_eq_false h2, Bool.or_false, cond_false] at h
      exact s_hasRoom_63 f s t _ _ _ h
/-- n arrays of s elements each, in the elements of m -/
def hIn (h : SH) (t m s : Int32) : Nat → SH
  | 0 => h
  | n + 1 => hSetAm (hMA (hIn h t m s n) (t - 16) s).2 (x_up (hAm (hMA (hIn h t m s n) (t - 16) s).2) (ix (hSt (hIn h t m s n) (ix m) + nI n)) (hMA (hIn h t m s n) (t - 16) s).1.toInt64)
def hWithin (h : SH) (t f s : Int32) : Int32 × SH := bif (decide ((hMA h t f).1 = -1) || decide (s = -1)) then hMA h t f else ((hMA h t f).1, hIn (hMA h t f).2 t (hMA h t f).1 s (ix f))
theorem hIn_OK {h : SH} {t m s : Int32} (hh : hOK h) : ∀ n, hOK (hIn h t m s n)
  | 0 => hh
  | n + 1 => hSetAm_OK (hMA_OK (hIn_OK hh n))
theorem x_up_ne {α : Type} (f : Nat → α) {k j : Nat} (v : α) (h : j ≠ k) : x_up f k v j = f j := if_neg h
theorem x_up_self {α : Type} (f : Nat → α) (k : Nat) (v : α) : x_up f k v k = v := if_pos rfl
/-- what stood stays: types, starts and lengths of the first k things -/
def hKeep (h h' : SH) : Prop := (hTh h).toInt ≤ (hTh h').toInt ∧ ∀ t : Nat, (t : Int) < (hTh h).toInt → hTy h' t = hTy h t ∧ hSt h' t = hSt h t ∧ hLe h' t = hLe h t
theorem hKeep.refl (h : SH) : hKeep h h := ⟨Int.le_refl _, fun _ _ => ⟨rfl, rfl, rfl⟩⟩
theorem hKeep.trans {a b c : SH} (h1 : hKeep a b) (h2 : hKeep b c) : hKeep a c := ⟨Int.le_trans h1.1 h2.1, fun t ht => by
  obtain ⟨x1, x2, x3⟩ := h1.2 t ht
  obtain ⟨y1, y2, y3⟩ := h2.2 t (Int.lt_of_lt_of_le ht h1.1)
  exact ⟨y1.trans x1, y2.trans x2, y3.trans x3⟩⟩
theorem hMk_keep {h : SH} {t l n : Int32} (hh : hOK h) : hKeep h (hMk h t l n).2 := by
  unfold hMk
  by_cases h1 : hTh h < 400
  · simp only [h1, decide_true, cond_true]
    have h2 := i_lt h1
    have h3 : (400 : Int32).toInt = 400 := rfl
    have h4 : (1 : Int32).toInt = 1 := rfl
    have h5 := hh.1
    have e1 : (hTh h + 1).toInt = (hTh h).toInt + 1 := by rw [i_add] <;> omega
    refine ⟨?_, fun u hu => ?_⟩
    · show (hTh h).toInt ≤ (hTh h + 1).toInt
      omega
    · have hne : u ≠ ix (hTh h) := by rw [ix_eq]; omega
      exact ⟨x_up_ne _ _ hne, x_up_ne _ _ hne, x_up_ne _ _ hne⟩
  · simp only [h1, decide_false, cond_false]
    exact hKeep.refl h
theorem hSetAm_keep (h : SH) (am : Nat → Int64) : hKeep h (hSetAm h am) := hKeep.refl h
theorem hMA_keep {h : SH} {t n : Int32} (hh : hOK h) : hKeep h (hMA h t n).2 := by
  unfold hMA
  cases (decide (n < 0) || !decide (n ≤ 4000 - hEl h))
  · simp only [cond_false]
    cases (decide ((hMk h t n n).fst = -1) || hNums (hMk h t n n).snd (hMk h t n n).fst)
    · exact (hMk_keep hh).trans (hSetAm_keep _ _)
    · exact hMk_keep hh
  · exact hKeep.refl h
theorem hIn_keep {h : SH} {t m s : Int32} (hh : hOK h) : ∀ n, hKeep h (hIn h t m s n)
  | 0 => hKeep.refl h
  | n + 1 => ((hIn_keep hh n).trans (hMA_keep (hIn_OK hh n))).trans (hSetAm_keep _ _)
/-- an array that was made is there, at the end of what stood -/
theorem hMA_made {h : SH} {t n : Int32} (hh : hOK h) (hm : ¬ (hMA h t n).1 = -1) : 0 ≤ n.toInt ∧ (hEl h).toInt + n.toInt ≤ 4000 ∧ (hMA h t n).1 = hTh h ∧ (hTh h).toInt < 400 ∧ (hTh (hMA h t n).2).toInt = (hTh h).toInt + 1 ∧ hSt (hMA h t n).2 (ix (hTh h)) = hEl h ∧ hLe (hMA h t n).2 (ix (hTh h)) = n := by
  by_cases h1 : n < 0
  · exact absurd (by simp [hMA, h1]) hm
  · by_cases h2 : n ≤ 4000 - hEl h
    · have hc := hMA_cond hh h1 h2
      by_cases h5 : hTh h < 400
      · have h6 := i_lt h5
        have h3 : (400 : Int32).toInt = 400 := rfl
        have h4 : (1 : Int32).toInt = 1 := rfl
        have h7 := hh.1
        have e1 : (hTh h + 1).toInt = (hTh h).toInt + 1 := by rw [i_add] <;> omega
        have key : (hMA h t n).1 = hTh h ∧ hTh (hMA h t n).2 = hTh h + 1 ∧ hSt (hMA h t n).2 = x_up (hSt h) (ix (hTh h)) (hEl h) ∧ hLe (hMA h t n).2 = x_up (hLe h) (ix (hTh h)) n := by
          have hmk : hMk h t n n = (hTh h, (hTh h + 1, hEl h + n, x_up (hTy h) (ix (hTh h)) t, x_up (hSt h) (ix (hTh h)) (hEl h), x_up (hLe h) (ix (hTh h)) n, hAm h, hRe h)) := by
            simp only [hMk, h5, decide_true, cond_true]
          unfold hMA
          simp only [h1, h2, decide_true, decide_false, Bool.not_true, Bool.or_false, cond_false]
          cases (decide ((hMk h t n n).fst = -1) || hNums (hMk h t n n).snd (hMk h t n n).fst)
          · rw [hmk]; exact ⟨rfl, rfl, rfl, rfl⟩
          · rw [hmk]; exact ⟨rfl, rfl, rfl, rfl⟩
        obtain ⟨k1, k2, k3, k4⟩ := key
        exact ⟨hc.1, hc.2, k1, by omega, by rw [k2, e1], by rw [k3, x_up_self], by rw [k4, x_up_self]⟩
      · exfalso
        apply hm
        unfold hMA
        simp [h1, h2, hMk, h5]
    · exact absurd (by simp [hMA, h1, h2]) hm
set_option maxRecDepth 100000 in
set_option maxHeartbeats 1000000 in
theorem s_makeWithin_loop {d : Nat} (hd : 5 ≤ d) {P : SP} {S : SS} {Q : xQ} (hh : hOK S.1) (t m s : Int32) (N st : Nat) (hm : vp_in m 400) (hm2 : m.toInt < (hTh S.1).toInt) (hst : hSt S.1 (ix m) = nI st) (hN : st + N ≤ 4000) (h : Q (some (.int m)) (wC P (hIn S.1 t m s N, S.2))) : ∀ (n i : Nat), i + n = N → Ev (Cd d) cdX2_makeWithin Q 22 [(0, .ref 2), (1, .int t), (2, .int (nI N)), (3, .int s), (4, .int m), (5, .int (nI i))] [] (wC P (hIn S.1 t m s i, S.2))
  | 0, i, hi => by
    have hi : i = N := by omega
    subst hi
    refine Ev.go (Cd.mono d) [22] 100 ?_
    refine And.intro (fun _ => ?_) (fun h1 => absurd (Int32.le_refl _) h1)
    exact h
  | n + 1, i, hi => by
    refine Ev.go (Cd.mono d) [22] 100 ?_
    refine And.intro (fun h1 => absurd h1 (nI_ge (by omega) (by omega))) (fun _ => ?_)
    refine And.intro hm ?_
    have hm3 : ((ix m : Nat) : Int) < (hTh S.1).toInt := by
      have := (vp_in_iff.mp hm).1
      rw [ix_eq]
      omega
    have hsi : hSt (hIn S.1 t m s i) (ix m) + nI i = nI (st + i) := by rw [((hIn_keep hh i).2 _ hm3).2.1, hst, nI_add]
    refine s_makeArray hd (by exact hIn_OK hh i) _ _ ?_
    refine And.intro ?_ ?_
    · show vp_in (hSt (hIn S.1 t m s i) (ix m) + nI i) 4000
      rw [hsi]
      exact vp_in_nI (by omega) (by omega)
    · have ih := s_makeWithin_loop hd hh t m s N st hm hm2 hst hN h n (i + 1) (by omega)
      rw [← nI_1, hIn] at ih
      exact ih
set_option maxRecDepth 100000 in
set_option maxHeartbeats 1000000 in
theorem s_makeWithin {D : Nat} (hD : 6 ≤ D) {P : SP} {S : SS} {Q : xQ} (hh : hOK S.1) (t f s : Int32) (h : Q (some (.int (hWithin S.1 t f s).1)) (wC P ((hWithin S.1 t f s).2, S.2))) : Cd D 23 [.ref 2, .int t, .int f, .int s] (wC P S) Q := by
  refine Cd.up hD ?_
  refine Cd.mk cdX2_makeWithin 6 0 3 [(0, .ref 2), (1, .int t), (2, .int f), (3, .int s)] rfl rfl rfl rfl 0 ?_
  refine Ev.go (Cd.mono 5) [22] 100 ?_
  unfold hWithin at h
  refine s_makeArray (by decide) hh t f ?_
  refine And.intro (fun h1 => ?_) (fun h1 => ?_)
  · simp only [h1, decide_true, Bool.true_or, cond_true] at h
    show Q _ _
    rw [h1]
    exact h
  · refine And.intro (fun h2 => ?_) (fun h2 => ?_)
    · simp only [h1, h2, decide_true, Bool.or_true, cond_true] at h
      exact h
    · simp only [h1, h2, decide_false, Bool.or_false, cond_false] at h
      obtain ⟨g1, g2, g3, g4, g5, g6, g7⟩ := hMA_made hh h1
      have hf : f = nI (ix f) := nI_toI g1
      have hl := s_makeWithin_loop (d := 5) (by decide) (P := P) (S := ((hMA S.1 t f).2, S.2)) (Q := Q) (hMA_OK hh) t (hMA S.1 t f).1 s (ix f) (ix (hEl S.1)) (by rw [g3]; exact vp_in_iff.mpr ⟨hh.1, by show (hTh S.1).toInt < 400; omega⟩) (by rw [g3]; show (hTh S.1).toInt < (hTh (hMA S.1 t f).2).toInt; omega) (by rw [g3]; show hSt (hMA S.1 t f).2 (ix (hTh S.1)) = _; rw [g6]; exact nI_toI hh.2.2.1) (by rw [ix_eq, ix_eq]; have := hh.2.2.1; omega) h (ix f) 0 (Nat.zero_add _)
      rw [← hf] at hl
      exact hl
