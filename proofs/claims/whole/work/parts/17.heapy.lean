theorem hWithin_OK {h : SH} {t f s : Int32} (hh : hOK h) : hOK (hWithin h t f s).2 := by
  unfold hWithin
  cases (decide ((hMA h t f).fst = -1) || decide (s = -1))
  · exact hIn_OK (hMA_OK hh) _
  · exact hMA_OK hh
theorem hWithin_keep {h : SH} {t f s : Int32} (hh : hOK h) : hKeep h (hWithin h t f s).2 := by
  unfold hWithin
  cases (decide ((hMA h t f).fst = -1) || decide (s = -1))
  · exact (hMA_keep hh).trans (hIn_keep (hMA_OK hh) _)
  · exact hMA_keep hh
/-- n arrays of s arrays of u elements each, in the elements of m -/
def hIn2 (h : SH) (t m s u : Int32) : Nat → SH
  | 0 => h
  | n + 1 => hSetAm (hWithin (hIn2 h t m s u n) (t - 16) s u).2 (x_up (hAm (hWithin (hIn2 h t m s u n) (t - 16) s u).2) (ix (hSt (hIn2 h t m s u n) (ix m) + nI n)) (hWithin (hIn2 h t m s u n) (t - 16) s u).1.toInt64)
theorem hIn2_OK {h : SH} {t m s u : Int32} (hh : hOK h) : ∀ n, hOK (hIn2 h t m s u n)
  | 0 => hh
  | n + 1 => hSetAm_OK (hWithin_OK (hIn2_OK hh n))
theorem hIn2_keep {h : SH} {t m s u : Int32} (hh : hOK h) : ∀ n, hKeep h (hIn2 h t m s u n)
  | 0 => hKeep.refl h
  | n + 1 => ((hIn2_keep hh n).trans (hWithin_keep (hIn2_OK hh n))).trans (hSetAm_keep _ _)
def hMAs (h : SH) (t f s u : Int32) : Int32 × SH :=
  bif !hRoom h f s u then (-1, h)
  else bif (decide ((hMA h t f).1 = -1) || decide (s = -1)) then hMA h t f
  else ((hMA h t f).1, hIn2 (hMA h t f).2 t (hMA h t f).1 s u (ix f))
theorem hMAs_OK {h : SH} {t f s u : Int32} (hh : hOK h) : hOK (hMAs h t f s u).2 := by
  unfold hMAs
  cases (!hRoom h f s u)
  · cases (decide ((hMA h t f).fst = -1) || decide (s = -1))
    · exact hIn2_OK (hMA_OK hh) _
    · exact hMA_OK hh
  · exact hh
set_option maxRecDepth 100000 in
set_option maxHeartbeats 1000000 in
theorem s_makeArrays_loop {d : Nat} (hd : 6 ≤ d) {P : SP} {S : SS} {Q : xQ} (hh : hOK S.1) (t m s u : Int32) (N st : Nat) (hm : vp_in m 400) (hm2 : m.toInt < (hTh S.1).toInt) (hst : hSt S.1 (ix m) = nI st) (hN : st + N ≤ 4000) (h : Q (some (.int m)) (wC P (hIn2 S.1 t m s u N, S.2))) : ∀ (n i : Nat), i + n = N → Ev (Cd d) cdX2_makeArrays Q 35 [(0, .ref 2), (1, .int t), (2, .int (nI N)), (3, .int s), (4, .int u), (5, .int m), (6, .int (nI i))] [] (wC P (hIn2 S.1 t m s u i, S.2))
  | 0, i, hi => by
    have hi : i = N := by omega
    subst hi
    refine Ev.go (Cd.mono d) [35] 100 ?_
    refine And.intro (fun _ => ?_) (fun h1 => absurd (Int32.le_refl _) h1)
    exact h
  | n + 1, i, hi => by
    refine Ev.go (Cd.mono d) [35] 100 ?_
    refine And.intro (fun h1 => absurd h1 (nI_ge (by omega) (by omega))) (fun _ => ?_)
    refine And.intro hm ?_
    have hm3 : ((ix m : Nat) : Int) < (hTh S.1).toInt := by
      have := (vp_in_iff.mp hm).1
      rw [ix_eq]
      omega
    have hsi : hSt (hIn2 S.1 t m s u i) (ix m) + nI i = nI (st + i) := by rw [((hIn2_keep hh i).2 _ hm3).2.1, hst, nI_add]
    refine s_makeWithin hd (by exact hIn2_OK hh i) _ _ _ ?_
    refine And.intro ?_ ?_
    · show vp_in (hSt (hIn2 S.1 t m s u i) (ix m) + nI i) 4000
      rw [hsi]
      exact vp_in_nI (by omega) (by omega)
    · have ih := s_makeArrays_loop hd hh t m s u N st hm hm2 hst hN h n (i + 1) (by omega)
      rw [← nI_1, hIn2] at ih
      exact ih
set_option maxRecDepth 100000 in
set_option maxHeartbeats 1000000 in
theorem s_makeArrays {D : Nat} (hD : 7 ≤ D) {P : SP} {S : SS} {Q : xQ} (hh : hOK S.1) (t f s u : Int32) (h : Q (some (.int (hMAs S.1 t f s u).1)) (wC P ((hMAs S.1 t f s u).2, S.2))) : Cd D 14 [.ref 2, .int t, .int f, .int s, .int u] (wC P S) Q := by
  refine Cd.up hD ?_
  refine Cd.mk cdX2_makeArrays 7 0 4 [(0, .ref 2), (1, .int t), (2, .int f), (3, .int s), (4, .int u)] rfl rfl rfl rfl 0 ?_
  refine Ev.go (Cd.mono 6) [35] 100 ?_
  unfold hMAs at h
  refine s_hasRoom (by decide) f s u ?_
  refine And.intro (fun h0 => ?_) (fun h0 => ?_)
  · rw [bI_ne0] at h0
    simp only [h0, Bool.not_true, cond_false] at h
    refine s_makeArray (by decide) hh t f ?_
    refine And.intro (fun h1 => ?_) (fun h1 => ?_)
    · simp only [decide_eq_true h1, Bool.true_or, cond_true] at h
      exact h
    · refine And.intro (fun h2 => ?_) (fun h2 => ?_)
      · simp only [decide_eq_true h2, Bool.or_true, cond_true] at h
        exact h
      · simp only [decide_eq_false h1, decide_eq_false h2, Bool.or_false, cond_false] at h
        obtain ⟨g1, g2, g3, g4, g5, g6, g7⟩ := hMA_made hh h1
        have hf : f = nI (ix f) := nI_toI g1
        have hl := s_makeArrays_loop (d := 6) (by decide) (P := P) (S := ((hMA S.1 t f).2, S.2)) (Q := Q) (hMA_OK hh) t (hMA S.1 t f).1 s u (ix f) (ix (hEl S.1)) (by rw [g3]; exact vp_in_iff.mpr ⟨hh.1, by show (hTh S.1).toInt < 400; omega⟩) (by rw [g3]; show (hTh S.1).toInt < (hTh (hMA S.1 t f).2).toInt; omega) (by rw [g3]; show hSt (hMA S.1 t f).2 (ix (hTh S.1)) = _; rw [g6]; exact nI_toI hh.2.2.1) (by rw [ix_eq, ix_eq]; have := hh.2.2.1; omega) h (ix f) 0 (Nat.zero_add _)
        rw [← hf] at hl
        exact hl
  · rw [bI_eq0] at h0
    simp only [h0, Bool.not_false, cond_true] at h
    exact h
/-! copies -/
def hCpy (h : SH) (a b n : Int32) : SH := (h.1, h.2.1, h.2.2.1, h.2.2.2.1, h.2.2.2.2.1, va_cpy (hAm h) (hAm h) (ix a) (ix b) (ix n), va_cpy (hRe h) (hRe h) (ix a) (ix b) (ix n))
theorem i_nneg {a : Int32} (h : 0 ≤ a.toInt) : ¬ a < 0 := by
  intro z
  have := i_lt z
  have h2 : (0 : Int32).toInt = 0 := rfl
  omega
set_option maxRecDepth 100000 in
set_option maxHeartbeats 1000000 in
theorem s_copyElements {D : Nat} (hD : 1 ≤ D) {P : SP} {S : SS} {Q : xQ} (a b n : Int32) (ha : 0 ≤ a.toInt) (hb : 0 ≤ b.toInt) (hn : 0 ≤ n.toInt) (han : a.toInt + n.toInt ≤ 4000) (hbn : b.toInt + n.toInt ≤ 4000) (h : Q none (wC P (hCpy S.1 a b n, S.2))) : Cd D 21 [.ref 2, .int a, .int b, .int n] (wC P S) Q := by
  refine Cd.up hD ?_
  refine Cd.mk cdX2_copyElements 4 0 3 [(0, .ref 2), (1, .int a), (2, .int b), (3, .int n)] rfl rfl rfl rfl 1000 ?_
  have hc : ¬ a < 0 ∧ ¬ b < 0 ∧ ¬ n < 0 ∧ a.toNatClampNeg + n.toNatClampNeg ≤ 4000 ∧ b.toNatClampNeg + n.toNatClampNeg ≤ 4000 := ⟨i_nneg ha, i_nneg hb, i_nneg hn, by show a.toInt.toNat + n.toInt.toNat ≤ 4000; omega, by show b.toInt.toNat + n.toInt.toNat ≤ 4000; omega⟩
  refine And.intro hc ?_
  refine And.intro hc ?_
  exact h
def hCopy (h : SH) (t : Int32) : Int32 × SH := bif decide ((hMA h (hTypeOf h t) (hLenOf h t)).1 = -1) then hMA h (hTypeOf h t) (hLenOf h t) else ((hMA h (hTypeOf h t) (hLenOf h t)).1, hCpy (hMA h (hTypeOf h t) (hLenOf h t)).2 (hSt h (ix t)) (hEl h) (hLenOf h t))
theorem hLenOf_arr {h : SH} {t : Int32} (hn : 0 ≤ (hLenOf h t).toInt) : hIsArray h t = true ∧ hLenOf h t = hLe h (ix t) := by
  unfold hLenOf at hn ⊢
  have e : (-1 : Int32).toInt = -1 := rfl
  cases ht : hIsThing h t
  · rw [ht] at hn
    simp only [cond_false] at hn
    omega
  · rw [ht] at hn
    simp only [cond_true] at hn ⊢
    refine ⟨?_, trivial⟩
    unfold hIsArray
    rw [ht]
    have : ¬ hLe h (ix t) = -1 := fun z => by rw [z] at hn; omega
    simp [this]
set_option maxRecDepth 100000 in
set_option maxHeartbeats 1000000 in
theorem s_makeCopy {D : Nat} (hD : 6 ≤ D) {P : SP} {S : SS} {Q : xQ} (hh : hOK S.1) (t : Int32) (h : Q (some (.int (hCopy S.1 t).1)) (wC P ((hCopy S.1 t).2, S.2))) : Cd D 15 [.ref 2, .int t] (wC P S) Q := by
  refine Cd.up hD ?_
  refine Cd.mk cdX2_makeCopy 3 0 1 [(0, .ref 2), (1, .int t)] rfl rfl rfl rfl 1000 ?_
  unfold hCopy at h
  refine s_typeOf (by decide) hh t ?_
  refine s_lengthOf (by decide) hh t ?_
  refine s_makeArray (by decide) hh _ _ ?_
  refine And.intro (fun h1 => ?_) (fun h1 => ?_)
  · simp only [decide_eq_true h1, cond_true] at h
    exact h
  · simp only [decide_eq_false h1, cond_false] at h
    obtain ⟨g1, g2, g3, g4, g5, g6, g7⟩ := hMA_made hh h1
    obtain ⟨ga, gl⟩ := hLenOf_arr g1
    have hr := hArr_rng hh ga
    have ht := hIsThing_rng (hIsArray_thing ga)
    have hk := (hMA_keep (t := hTypeOf S.1 t) (n := hLenOf S.1 t) hh).2 (ix t) (by rw [ix_eq]; omega)
    have hm : vp_in (hMA S.1 (hTypeOf S.1 t) (hLenOf S.1 t)).1 400 := by rw [g3]; exact vp_in_iff.mpr ⟨hh.1, by omega⟩
    have e1 := hh.2.2.2.1
    have e2 := hh.2.2.1
    rw [← gl] at hr
    refine And.intro (hIsThing_in hh (hIsArray_thing ga)) ?_
    refine And.intro hm ?_
    refine And.intro hm ?_
    have k1 : hSt (hMA S.1 (hTypeOf S.1 t) (hLenOf S.1 t)).2 (ix t) = hSt S.1 (ix t) := hk.2.1
    have k2 : hSt (hMA S.1 (hTypeOf S.1 t) (hLenOf S.1 t)).2 (ix (hMA S.1 (hTypeOf S.1 t) (hLenOf S.1 t)).1) = hEl S.1 := by rw [g3]; exact g6
    have k3 : hLe (hMA S.1 (hTypeOf S.1 t) (hLenOf S.1 t)).2 (ix (hMA S.1 (hTypeOf S.1 t) (hLenOf S.1 t)).1) = hLenOf S.1 t := by rw [g3]; exact g7
    refine s_copyElements (S := ((hMA S.1 (hTypeOf S.1 t) (hLenOf S.1 t)).2, S.2)) (by decide) _ _ _ ?_ ?_ ?_ ?_ ?_ ?_
    · show 0 ≤ (hSt (hMA S.1 (hTypeOf S.1 t) (hLenOf S.1 t)).2 (ix t)).toInt
      rw [k1]; omega
    · show 0 ≤ (hSt (hMA S.1 (hTypeOf S.1 t) (hLenOf S.1 t)).2 (ix (hMA S.1 (hTypeOf S.1 t) (hLenOf S.1 t)).1)).toInt
      rw [k2]; omega
    · show 0 ≤ (hLe (hMA S.1 (hTypeOf S.1 t) (hLenOf S.1 t)).2 (ix (hMA S.1 (hTypeOf S.1 t) (hLenOf S.1 t)).1)).toInt
      rw [k3]; omega
    · show (hSt (hMA S.1 (hTypeOf S.1 t) (hLenOf S.1 t)).2 (ix t)).toInt + (hLe (hMA S.1 (hTypeOf S.1 t) (hLenOf S.1 t)).2 (ix (hMA S.1 (hTypeOf S.1 t) (hLenOf S.1 t)).1)).toInt ≤ 4000
      rw [k1, k3]; omega
    · show (hSt (hMA S.1 (hTypeOf S.1 t) (hLenOf S.1 t)).2 (ix (hMA S.1 (hTypeOf S.1 t) (hLenOf S.1 t)).1)).toInt + (hLe (hMA S.1 (hTypeOf S.1 t) (hLenOf S.1 t)).2 (ix (hMA S.1 (hTypeOf S.1 t) (hLenOf S.1 t)).1)).toInt ≤ 4000
      rw [k2, k3]; omega
    · show Q (some (.int (hMA S.1 (hTypeOf S.1 t) (hLenOf S.1 t)).1)) (wC P (hCpy (hMA S.1 (hTypeOf S.1 t) (hLenOf S.1 t)).2 (hSt (hMA S.1 (hTypeOf S.1 t) (hLenOf S.1 t)).2 (ix t)) (hSt (hMA S.1 (hTypeOf S.1 t) (hLenOf S.1 t)).2 (ix (hMA S.1 (hTypeOf S.1 t) (hLenOf S.1 t)).1)) (hLe (hMA S.1 (hTypeOf S.1 t) (hLenOf S.1 t)).2 (ix (hMA S.1 (hTypeOf S.1 t) (hLenOf S.1 t)).1)), S.2))
      rw [k1, k2, k3]
      exact h
