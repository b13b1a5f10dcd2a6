/-! the class's heap: makings -/
def hSetAm (h : SH) (am : Nat → Int64) : SH := (h.1, h.2.1, h.2.2.1, h.2.2.2.1, h.2.2.2.2.1, am, h.2.2.2.2.2.2)
def hMk (h : SH) (t l n : Int32) : Int32 × SH := bif decide (hTh h < 400) then (hTh h, (hTh h + 1, hEl h + n, x_up (hTy h) (ix (hTh h)) t, x_up (hSt h) (ix (hTh h)) (hEl h), x_up (hLe h) (ix (hTh h)) l, hAm h, hRe h)) else (-1, h)
theorem i_add1sub (x : Int32) : x + 1 - 1 = x := by
  apply Int32.toBitVec_inj.mp
  simp
set_option maxRecDepth 100000 in
set_option maxHeartbeats 1000000 in
theorem s_make {D : Nat} (hD : 1 ≤ D) {P : SP} {S : SS} {Q : xQ} (hh : hOK S.1) (t l n : Int32) (h : Q (some (.int (hMk S.1 t l n).1)) (wC P ((hMk S.1 t l n).2, S.2))) : Cd D 25 [.ref 2, .int t, .int l, .int n] (wC P S) Q := by
  refine Cd.up hD ?_
  refine Cd.mk cdX2_make 4 0 3 [(0, .ref 2), (1, .int t), (2, .int l), (3, .int n)] rfl rfl rfl rfl 1000 ?_
  unfold hMk at h
  refine And.intro (fun h1 => ?_) (fun h1 => ?_)
  · have hi : vp_in (hTh S.1) 400 := vp_in_iff.mpr ⟨hh.1, by have := i_lt h1; have h2 : (400 : Int32).toInt = 400 := rfl; omega⟩
    refine And.intro hi ?_
    refine And.intro hi ?_
    refine And.intro hi ?_
    show Q _ _
    rw [i_add1sub]
    simp only [h1, decide_true, cond_true] at h
    exact h
  · show Q _ _
    simp only [h1, decide_false, cond_false] at h
    exact h
set_option maxRecDepth 100000 in
set_option maxHeartbeats 1000000 in
theorem s_makeInstance {D : Nat} (hD : 2 ≤ D) {P : SP} {S : SS} {Q : xQ} (hh : hOK S.1) (t : Int32) (h : Q (some (.int (hMk S.1 t (-1) 0).1)) (wC P ((hMk S.1 t (-1) 0).2, S.2))) : Cd D 12 [.ref 2, .int t] (wC P S) Q := by
  refine Cd.up hD ?_
  refine Cd.mk cdX2_makeInstance 2 0 1 [(0, .ref 2), (1, .int t)] rfl rfl rfl rfl 1000 ?_
  refine s_make (by decide) hh t (-1) 0 ?_
  show Q _ _
  exact h
/-- n places from s on hold NULL -/
def fillF (am : Nat → Int64) (s : Nat) : Nat → Nat → Int64
  | 0 => am
  | n + 1 => x_up (fillF am s n) (s + n) (-1)
def hMA (h : SH) (t n : Int32) : Int32 × SH :=
  bif (decide (n < 0) || !decide (n ≤ 4000 - hEl h)) then (-1, h)
  else bif (decide ((hMk h t n n).1 = -1) || hNums (hMk h t n n).2 (hMk h t n n).1) then hMk h t n n
  else ((hMk h t n n).1, hSetAm (hMk h t n n).2 (fillF (hAm h) (ix (hEl h)) (ix n)))
theorem nI_toI {a : Int32} (h : 0 ≤ a.toInt) : a = nI a.toInt.toNat := by
  apply Int32.toInt_inj.mp
  rw [nI_toInt (by have := (i_rng a).2; omega)]
  omega
theorem hMk_OK {h : SH} {t l n : Int32} (hh : hOK h) (hn : 0 ≤ n.toInt ∧ (hEl h).toInt + n.toInt ≤ 4000) (hl : l = -1 ∨ l = n) : hOK (hMk h t l n).2 := by
  unfold hMk
  by_cases h1 : hTh h < 400
  · simp only [h1, decide_true, cond_true]
    have h2 := i_lt h1
    have h3 : (400 : Int32).toInt = 400 := rfl
    have h4 : (1 : Int32).toInt = 1 := rfl
    obtain ⟨a1, a2, a3, a4, a5⟩ := hh
    have e1 : (hTh h + 1).toInt = (hTh h).toInt + 1 := by rw [i_add] <;> omega
    have e2 : (hEl h + n).toInt = (hEl h).toInt + n.toInt := by rw [i_add] <;> omega
    refine ⟨?_, ?_, ?_, ?_, ?_⟩
    · show 0 ≤ (hTh h + 1).toInt; omega
    · show (hTh h + 1).toInt ≤ 400; omega
    · show 0 ≤ (hEl h + n).toInt; omega
    · show (hEl h + n).toInt ≤ 4000; omega
    · intro u hu hlu
      have hu : (u : Int) < (hTh h + 1).toInt := hu
      rw [e1] at hu
      show 0 ≤ (x_up (hSt h) (ix (hTh h)) (hEl h) u).toInt ∧ 0 ≤ (x_up (hLe h) (ix (hTh h)) l u).toInt ∧ (x_up (hSt h) (ix (hTh h)) (hEl h) u).toInt + (x_up (hLe h) (ix (hTh h)) l u).toInt ≤ (hEl h + n).toInt
      have hlu : ¬ x_up (hLe h) (ix (hTh h)) l u = -1 := hlu
      rw [e2]
      unfold x_up at hlu ⊢
      by_cases hk : u = ix (hTh h)
      · simp only [hk, if_true] at hlu ⊢
        rcases hl with z | z
        · exact absurd z hlu
        · rw [z]; omega
      · simp only [hk, if_false] at hlu ⊢
        rw [ix_eq] at hk
        have := a5 u (by omega) hlu
        omega
  · simp only [h1, decide_false, cond_false]
    exact hh
theorem hSetAm_OK {h : SH} {am : Nat → Int64} (hh : hOK h) : hOK (hSetAm h am) := hh
theorem hMA_cond {h : SH} {n : Int32} (hh : hOK h) (h1 : ¬ n < 0) (h2 : n ≤ 4000 - hEl h) : 0 ≤ n.toInt ∧ (hEl h).toInt + n.toInt ≤ 4000 := by
  have h3 := i_not_lt h1
  have h4 := i_le h2
  have h5 : (0 : Int32).toInt = 0 := rfl
  have h6 : (4000 : Int32).toInt = 4000 := rfl
  have h7 := hh.2.2.1
  have h8 := hh.2.2.2.1
  rw [i_sub (by omega) (by omega)] at h4
  omega
theorem hMA_OK {h : SH} {t n : Int32} (hh : hOK h) : hOK (hMA h t n).2 := by
  unfold hMA
  by_cases h1 : n < 0
  · simp only [h1, decide_true, Bool.true_or, cond_true]; exact hh
  · by_cases h2 : n ≤ 4000 - hEl h
    · simp only [h1, h2, decide_true, decide_false, Bool.not_true, Bool.or_false, cond_false]
      have := hMk_OK (t := t) (l := n) hh (hMA_cond hh h1 h2) (Or.inr rfl)
      cases (decide ((hMk h t n n).fst = -1) || hNums (hMk h t n n).snd (hMk h t n n).fst)
      · exact hSetAm_OK this
      · exact this
    · simp only [h1, h2, decide_false, Bool.not_false, Bool.or_true, cond_true]; exact hh
/-- what was made holds numbers if its type says so -/
theorem hMk_nums {h : SH} {t n : Int32} (hh : hOK h) (hn : 0 ≤ n.toInt) (hm : ¬ (hMk h t n n).1 = -1) : hNums (hMk h t n n).2 (hMk h t n n).1 = tIsNum (t - 16) := by
  have h5 : hTh h < 400 := by
    apply Classical.byContradiction
    intro z
    apply hm
    simp only [hMk, z, decide_false, cond_false]
  have h6 := i_lt h5
  have h3 : (400 : Int32).toInt = 400 := rfl
  have h4 : (1 : Int32).toInt = 1 := rfl
  have h0 : (0 : Int32).toInt = 0 := rfl
  have h9 : (-1 : Int32).toInt = -1 := rfl
  have h7 := hh.1
  have e1 : (hTh h + 1).toInt = (hTh h).toInt + 1 := by rw [i_add] <;> omega
  have hmk : hMk h t n n = (hTh h, (hTh h + 1, hEl h + n, x_up (hTy h) (ix (hTh h)) t, x_up (hSt h) (ix (hTh h)) (hEl h), x_up (hLe h) (ix (hTh h)) n, hAm h, hRe h)) := by
    simp only [hMk, h5, decide_true, cond_true]
  have a1 : ¬ hTh h < 0 := fun z => by have := i_lt z; omega
  have a2 : ¬ hTh h + 1 ≤ hTh h := fun z => by have := i_le z; omega
  have a3 : ¬ n = -1 := fun z => by rw [z] at hn; omega
  have ha : hIsArray (hMk h t n n).2 (hMk h t n n).1 = true := by
    rw [hmk]
    show ((!decide (hTh h < 0) && !decide (hTh h + 1 ≤ hTh h)) && !decide (x_up (hLe h) (ix (hTh h)) n (ix (hTh h)) = -1)) = true
    have e : x_up (hLe h) (ix (hTh h)) n (ix (hTh h)) = n := if_pos rfl
    rw [e, decide_eq_false a1, decide_eq_false a2, decide_eq_false a3]
    rfl
  have hty : hTy (hMk h t n n).2 (ix (hMk h t n n).1) = t := by
    rw [hmk]
    exact if_pos rfl
  unfold hNums hTyEl
  rw [ha, cond_true, hty]
set_option maxRecDepth 100000 in
set_option maxHeartbeats 1000000 in
theorem s_makeArray_loop {d : Nat} {P : SP} {S : SS} {Q : xQ} (t m : Int32) (N s : Nat) (hm : vp_in m 400) (hs : hSt S.1 (ix m) = nI s) (hN : s + N ≤ 4000) (h : Q (some (.int m)) (wC P (hSetAm S.1 (fillF (hAm S.1) s N), S.2))) : ∀ (n i : Nat), i + n = N → Ev (Cd d) cdX2_makeArray Q 44 [(0, .ref 2), (1, .int t), (2, .int (nI N)), (3, .int m), (4, .int (nI i))] [] (wC P (hSetAm S.1 (fillF (hAm S.1) s i), S.2))
  | 0, i, hi => by
    have hi : i = N := by omega
    subst hi
    refine Ev.go (Cd.mono d) [44] 100 ?_
    refine And.intro (fun _ => ?_) (fun h1 => absurd (Int32.le_refl _) h1)
    exact h
  | n + 1, i, hi => by
    refine Ev.go (Cd.mono d) [44] 100 ?_
    refine And.intro (fun h1 => absurd h1 (nI_ge (by omega) (by omega))) (fun _ => ?_)
    refine And.intro hm ?_
    have hsi : hSt S.1 (ix m) + nI i = nI (s + i) := by rw [hs, nI_add]
    have hc : (nI (s + i)).toNatClampNeg = s + i := nI_clamp (by omega)
    refine And.intro ?_ ?_
    · show vp_in (hSt S.1 (ix m) + nI i) 4000
      rw [hsi]
      exact vp_in_nI (by omega) (by omega)
    · have ih := s_makeArray_loop (d := d) t m N s hm hs hN h n (i + 1) (by omega)
      rw [← nI_1, fillF] at ih
      have e : s + i = (hSt S.1 (ix m) + nI i).toNatClampNeg := by rw [hsi, hc]
      rw [e] at ih
      exact ih
set_option maxRecDepth 100000 in
set_option maxHeartbeats 1000000 in
theorem s_makeArray {D : Nat} (hD : 5 ≤ D) {P : SP} {S : SS} {Q : xQ} (hh : hOK S.1) (t n : Int32) (h : Q (some (.int (hMA S.1 t n).1)) (wC P ((hMA S.1 t n).2, S.2))) : Cd D 13 [.ref 2, .int t, .int n] (wC P S) Q := by
  refine Cd.up hD ?_
  refine Cd.mk cdX2_makeArray 5 0 2 [(0, .ref 2), (1, .int t), (2, .int n)] rfl rfl rfl rfl 0 ?_
  refine Ev.go (Cd.mono 4) [44] 100 ?_
  unfold hMA at h
  refine And.intro (fun h1 => ?_) (fun h1 => ?_)
  · simp only [h1, decide_true, Bool.true_or, cond_true] at h
    exact h
  · refine And.intro (fun h2 => ?_) (fun h2 => ?_)
    · simp only [h1, h2, decide_true, decide_false, Bool.not_true, Bool.or_false, cond_false] at h
      refine s_make (by decide) hh t n n ?_
      have hc := hMA_cond hh h1 h2
      have hok := hMk_OK (t := t) (l := n) hh hc (Or.inr rfl)
      refine And.intro (fun h3 => ?_) (fun h3 => ?_)
      · simp only [h3, decide_true, Bool.true_or, cond_true] at h
        show Q _ _
        rw [h3]
        exact h
      · simp only [h3, decide_false, Bool.false_or] at h
        rw [hMk_nums hh hc.1 h3] at h
        refine s_isOfNumbers (by decide) _ ?_
        refine And.intro (fun h4 => ?_) (fun h4 => ?_)
        · rw [bI_ne0] at h4
          simp only [h4, cond_true] at h
          exact h
        · rw [bI_eq0] at h4
          simp only [h4, cond_false] at h
          have h5 : hTh S.1 < 400 := by
            apply Classical.byContradiction
            intro z
            apply h3
            simp only [hMk, z, decide_false, cond_false]
          have hmk : hMk S.1 t n n = (hTh S.1, (hTh S.1 + 1, hEl S.1 + n, x_up (hTy S.1) (ix (hTh S.1)) t, x_up (hSt S.1) (ix (hTh S.1)) (hEl S.1), x_up (hLe S.1) (ix (hTh S.1)) n, hAm S.1, hRe S.1)) := by
            simp only [hMk, h5, decide_true, cond_true]
          have hnN : n = nI (ix n) := nI_toI hc.1
          have hi : vp_in (hMk S.1 t n n).1 400 := by
            rw [hmk]
            exact vp_in_iff.mpr ⟨hh.1, by have := i_lt h5; have h2 : (400 : Int32).toInt = 400 := rfl; show (hTh S.1).toInt < 400; omega⟩
          have hst : hSt (hMk S.1 t n n).2 (ix (hMk S.1 t n n).1) = nI (ix (hEl S.1)) := by
            rw [hmk]
            show x_up (hSt S.1) (ix (hTh S.1)) (hEl S.1) (ix (hTh S.1)) = _
            unfold x_up
            rw [if_pos rfl]
            exact nI_toI hh.2.2.1
          have hN : ix (hEl S.1) + ix n ≤ 4000 := by rw [ix_eq, ix_eq]; have := hh.2.2.1; omega
          have ham : hAm (hMk S.1 t n n).2 = hAm S.1 := by rw [hmk]
          have hl := s_makeArray_loop (d := 4) (P := P) (S := ((hMk S.1 t n n).2, S.2)) (Q := Q) t (hMk S.1 t n n).1 (ix n) (ix (hEl S.1)) hi hst hN (by rw [ham]; exact h) (ix n) 0 (Nat.zero_add _)
          rw [← hnN] at hl
          exact hl
    · simp only [h1, h2, decide_false, Bool.not_false, Bool.or_true, cond_true] at h
      exact h
