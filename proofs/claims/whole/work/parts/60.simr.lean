/-! MOVE: the reference's own -/
def mMv (m : MS) (mv : Nat → Int64) (mr : Nat → UInt64) : MS := (m.1, m.2.1, (mv, mr))
def hCp (h : SH) (a b n : Nat) : SH := (h.1, h.2.1, h.2.2.1, h.2.2.2.1, h.2.2.2.2.1, va_cpy (hAm h) (hAm h) a b n, va_cpy (hRe h) (hRe h) a b n)
theorem cpyin_step {α : Type} (f g : Nat → α) (A i : Nat) : x_up (va_cpy f g A 0 i) i (f (A + i)) = va_cpy f g A 0 (i + 1) := by
  funext j
  unfold x_up va_cpy
  by_cases hj : j = i
  · subst hj
    rw [if_pos rfl, if_pos (by omega)]
    congr 1
  · rw [if_neg hj]
    by_cases h2 : 0 ≤ j ∧ j < 0 + i
    · rw [if_pos h2, if_pos (by omega)]
    · rw [if_neg h2, if_neg (by omega)]
theorem cpyin_0 {α : Type} (f g : Nat → α) (A : Nat) : va_cpy f g A 0 0 = g := by
  funext j
  unfold va_cpy
  rw [if_neg (by omega)]
theorem cpyin_at {α : Type} (f g : Nat → α) (A : Nat) {N j : Nat} (h : j < N) : va_cpy f g A 0 N j = f (A + j) := by
  unfold va_cpy
  rw [if_pos (by omega)]
  congr 1
theorem cpy_up {α : Type} (f : Nat → α) (A B i : Nat) : x_up (va_cpy f f A B i) (B + i) (f (A + i)) = va_cpy f f A B (i + 1) := by
  funext j
  unfold x_up va_cpy
  by_cases hj : j = B + i
  · subst hj
    rw [if_pos rfl, if_pos (by omega)]
    congr 1
    omega
  · rw [if_neg hj]
    by_cases h2 : B ≤ j ∧ j < B + i
    · rw [if_pos h2, if_pos (by omega)]
    · rw [if_neg h2, if_neg (by omega)]
def cFit (fit : Nat → Bool) : Nat → Nat → Nat
  | 0, i => i
  | j + 1, i => bif fit i then cFit fit j (i + 1) else i
theorem cFit_hFits {h : SH} {f s ty : Int32} : ∀ j i, cFit (hFitAt h f s ty) j i = hFits h f s ty j i
  | 0, i => rfl
  | j + 1, i => by
    unfold cFit hFits
    rw [cFit_hFits j (i + 1)]
theorem cFit_all {fit : Nat → Bool} : ∀ j i, (∀ q, q < i + j → fit q = true) → cFit fit j i = i + j
  | 0, i, _ => rfl
  | j + 1, i, h => by
    unfold cFit
    rw [h i (by omega), cond_true, cFit_all j (i + 1) (fun q hq => h q (by omega))]
    omega
theorem cFit_ge {fit : Nat → Bool} : ∀ j i, i ≤ cFit fit j i
  | 0, i => Nat.le_refl _
  | j + 1, i => by
    unfold cFit
    cases fit i
    · exact Nat.le_refl _
    · exact Nat.le_trans (Nat.le_succ i) (cFit_ge j (i + 1))
set_option maxRecDepth 100000 in
set_option maxHeartbeats 1000000 in
theorem mv_in_loop {e : Nat} (he : 1 ≤ e) {P : SP} {S : SS} {m : MS} {Q : xQ} {nd nb : Int32} {z p : Int64} (F A0 s N : Nat) (hF : F < 400) (hst : hSt S.1 F = nI A0) (hA : A0 + s + N ≤ 4000) (h : Ev (Cd e) cdX8_move Q 201 [(0, .ref 0), (1, .int nd), (2, .long (lN F)), (4, .long (lN s)), (6, .long z), (8, .long p), (10, .int (nI N)), (11, .int nb), (12, .int (nI N))] [] (wM P S (mMv m (va_cpy (hAm S.1) (mMoved m) (A0 + s) 0 N) (va_cpy (hRe S.1) (mMovedR m) (A0 + s) 0 N)))) : ∀ (j i : Nat), i + j = N → Ev (Cd e) cdX8_move Q 142 [(0, .ref 0), (1, .int nd), (2, .long (lN F)), (4, .long (lN s)), (6, .long z), (8, .long p), (10, .int (nI N)), (11, .int nb), (12, .int (nI i))] [] (wM P S (mMv m (va_cpy (hAm S.1) (mMoved m) (A0 + s) 0 i) (va_cpy (hRe S.1) (mMovedR m) (A0 + s) 0 i)))
  | 0, i, hi => by
    have hi : i = N := by omega
    subst hi
    refine Ev.go (Cd.mono e) [201] 100 ?_
    refine And.intro (fun _ => ?_) (fun z => absurd (Int32.le_refl _) z)
    exact h
  | j + 1, i, hi => by
    have ih := mv_in_loop (Q := Q) (P := P) (S := S) (m := m) (nd := nd) (nb := nb) (z := z) (p := p) he F A0 s N hF hst hA h j (i + 1) (by omega)
    have eF : (lN F).toInt32 = nI F := lN_i F
    have zin : vp_in (lN F).toInt32 400 := by rw [eF]; exact vp_in_nI hF (by decide)
    have hpl : hSt S.1 (ix (lN F).toInt32) + (lN s + (nI i).toInt64).toInt32 = nI (A0 + s + i) := by
      rw [eF, ix_nI (by omega), hst, nI_l (by omega), lN_add, lN_i, nI_add, Nat.add_assoc]
    have pin : vp_in (nI (A0 + s + i)) 4000 := vp_in_nI (by omega) (by decide)
    have iin : vp_in (nI i) 4000 := vp_in_nI (by omega) (by decide)
    have ih' : Ev (Cd e) cdX8_move Q 142 [(0, .ref 0), (1, .int nd), (2, .long (lN F)), (4, .long (lN s)), (6, .long z), (8, .long p), (10, .int (nI N)), (11, .int nb), (12, .int (nI i + 1))] [] (wM P S (mMv m (x_up (va_cpy (hAm S.1) (mMoved m) (A0 + s) 0 i) (ix (nI i)) (hAm S.1 (ix (nI (A0 + s + i))))) (x_up (va_cpy (hRe S.1) (mMovedR m) (A0 + s) 0 i) (ix (nI i)) (hRe S.1 (ix (nI (A0 + s + i))))))) := by
      rw [ix_nI (k := i) (by omega), ix_nI (k := A0 + s + i) (by omega), cpyin_step, cpyin_step, nI_1]
      exact ih
    refine Ev.go (Cd.mono e) [142] 100 ?_
    refine And.intro (fun z => absurd z (nI_ge (by omega) (by omega))) (fun _ => ?_)
    refine m_placeOf (S := S) (m := mMv m (va_cpy (hAm S.1) (mMoved m) (A0 + s) 0 i) (va_cpy (hRe S.1) (mMovedR m) (A0 + s) 0 i)) he _ _ zin ?_
    rw [hpl]
    refine And.intro pin ?_
    refine And.intro iin ?_
    refine m_placeOf (S := S) (m := mMv m (x_up (va_cpy (hAm S.1) (mMoved m) (A0 + s) 0 i) (ix (nI i)) (hAm S.1 (ix (nI (A0 + s + i))))) (va_cpy (hRe S.1) (mMovedR m) (A0 + s) 0 i)) he _ _ zin ?_
    rw [hpl]
    refine And.intro pin ?_
    refine And.intro iin ?_
    exact ih'
def MF (h : SH) (m : MS) (nb : Int32) (T : Nat) (fit : Nat → Bool) (i : Nat) : Prop :=
  (¬ nb = 0 ∧ fit i = true) ∨ (nb = 0 ∧ ((mMoved m i < 0 ∧ fit i = true) ∨ (¬ mMoved m i < 0 ∧ vp_in (mMoved m i).toInt32 400 ∧ tIsType (hTy h (ix (mMoved m i).toInt32)) = true ∧ fit i = tSub (hTy h (ix (mMoved m i).toInt32)) (hTy h T - 16))))
set_option maxRecDepth 100000 in
set_option maxHeartbeats 1000000 in
theorem mv_out_loop {e : Nat} (he : 2 ≤ e) {P : SP} {S : SS} {m : MS} {Q : xQ} {nd nb : Int32} {x y : Int64} (h : SH) (T B0 p A N : Nat) (fit : Nat → Bool) (hT : T < 400) (hst : hSt h T = nI B0) (hB : B0 + p + N ≤ 4000) (hty : tIsType (hTy h T - 16) = true) (hmv : ∀ j, j < N → mMoved m j = hAm h (A + j) ∧ mMovedR m j = hRe h (A + j)) (hfit : ∀ j, j < N → MF h m nb T fit j) (hdp : vp_in (mDeep m - 1) 100) : ∀ (j i : Nat), i + j = N → (cFit fit j i = N → Q none (wM P (mGive (hCp h A (B0 + p) N, S.2) m 0 (nI N).toInt64).1 (mGive (hCp h A (B0 + p) N, S.2) m 0 (nI N).toInt64).2)) → (∀ r, cFit fit j i = r → r < N → Q none (wM P (sFail (hCp h A (B0 + p) r, S.2) 3 nd) m)) → Ev (Cd e) cdX8_move Q 204 [(0, .ref 0), (1, .int nd), (2, .long x), (4, .long y), (6, .long (lN T)), (8, .long (lN p)), (10, .int (nI N)), (11, .int nb), (12, .int (nI i))] [] (wM P (hCp h A (B0 + p) i, S.2) m)
  | 0, i, hi, h1, h2 => by
    have hi : i = N := by omega
    subst hi
    refine Ev.go (Cd.mono e) [] 100 ?_
    refine And.intro (fun _ => ?_) (fun z => absurd (Int32.le_refl _) z)
    refine m_number (S := (hCp h A (B0 + p) i, S.2)) (m := m) he _ hdp ?_
    exact h1 rfl
  | j + 1, i, hi, h1, h2 => by
    have ih := mv_out_loop (Q := Q) (P := P) (S := S) (m := m) (nd := nd) (nb := nb) (x := x) (y := y) he h T B0 p A N fit hT hst hB hty hmv hfit hdp j (i + 1) (by omega)
    have eT : (lN T).toInt32 = nI T := lN_i T
    have eTT : ix (lN T).toInt32 = T := by rw [eT]; exact ix_nI (by omega)
    have zin : vp_in (lN T).toInt32 400 := by rw [eT]; exact vp_in_nI hT (by decide)
    have hpl : hSt h (ix (lN T).toInt32) + (lN p + (nI i).toInt64).toInt32 = nI (B0 + p + i) := by
      rw [eTT, hst, nI_l (by omega), lN_add, lN_i, nI_add, Nat.add_assoc]
    have pin : vp_in (nI (B0 + p + i)) 4000 := vp_in_nI (by omega) (by decide)
    have iin : vp_in (nI i) 4000 := vp_in_nI (by omega) (by decide)
    have eii : (nI i).toNatClampNeg = i := nI_clamp (by omega)
    obtain ⟨v1, v2⟩ := hmv i (by omega)
    have hgo : fit i = true → Ev (Cd e) cdX8_move Q 265 [(0, .ref 0), (1, .int nd), (2, .long x), (4, .long y), (6, .long (lN T)), (8, .long (lN p)), (10, .int (nI N)), (11, .int nb), (12, .int (nI i))] [] (wM P (hCp h A (B0 + p) i, S.2) m) := by
      intro hf
      unfold cFit at h1 h2
      rw [hf, cond_true] at h1 h2
      have ih := ih h1 h2
      have ih' : Ev (Cd e) cdX8_move Q 204 [(0, .ref 0), (1, .int nd), (2, .long x), (4, .long y), (6, .long (lN T)), (8, .long (lN p)), (10, .int (nI N)), (11, .int nb), (12, .int (nI i + 1))] [] (wM P ((h.1, h.2.1, h.2.2.1, h.2.2.2.1, h.2.2.2.2.1, x_up (va_cpy (hAm h) (hAm h) A (B0 + p) i) (ix (nI (B0 + p + i))) (mMoved m (ix (nI i))), x_up (va_cpy (hRe h) (hRe h) A (B0 + p) i) (ix (nI (B0 + p + i))) (mMovedR m (ix (nI i)))), S.2) m) := by
        rw [ix_nI (k := i) (by omega), ix_nI (k := B0 + p + i) (by omega), v1, v2, cpy_up, cpy_up, nI_1]
        exact ih
      refine Ev.go (Cd.mono e) [204] 100 ?_
      refine m_placeOf (S := (hCp h A (B0 + p) i, S.2)) (m := m) (by omega) _ _ zin ?_
      rw [show hSt (hCp h A (B0 + p) i) (ix (lN T).toInt32) + (lN p + (nI i).toInt64).toInt32 = nI (B0 + p + i) from hpl]
      refine And.intro iin ?_
      refine And.intro pin ?_
      refine m_placeOf (S := ((h.1, h.2.1, h.2.2.1, h.2.2.2.1, h.2.2.2.2.1, x_up (va_cpy (hAm h) (hAm h) A (B0 + p) i) (ix (nI (B0 + p + i))) (mMoved m (ix (nI i))), va_cpy (hRe h) (hRe h) A (B0 + p) i), S.2)) (m := m) (by omega) _ _ zin ?_
      rw [show hSt (h.1, h.2.1, h.2.2.1, h.2.2.2.1, h.2.2.2.2.1, x_up (va_cpy (hAm h) (hAm h) A (B0 + p) i) (ix (nI (B0 + p + i))) (mMoved m (ix (nI i))), va_cpy (hRe h) (hRe h) A (B0 + p) i) (ix (lN T).toInt32) + (lN p + (nI i).toInt64).toInt32 = nI (B0 + p + i) from hpl]
      refine And.intro iin ?_
      refine And.intro pin ?_
      exact ih'
    refine Ev.go (Cd.mono e) [265] 100 ?_
    refine And.intro (fun z => absurd z (nI_ge (by omega) (by omega))) (fun _ => ?_)
    rcases hfit i (by omega) with ⟨hb, hf⟩ | ⟨hb, hm⟩
    · refine And.intro (fun _ => ?_) (fun z => absurd z hb)
      exact hgo hf
    · refine And.intro (fun z => absurd hb z) (fun _ => ?_)
      refine And.intro iin ?_
      rw [eii]
      rcases hm with ⟨hn, hf⟩ | ⟨hn, hv, htt, hf⟩
      · refine And.intro (fun _ => ?_) (fun z => absurd (by rw [lc_lt]; exact hn) z)
        exact hgo hf
      · refine And.intro (fun z => absurd (by rw [lc_lt] at z; exact z) hn) (fun _ => ?_)
        refine And.intro iin ?_
        rw [eii]
        refine And.intro hv ?_
        refine And.intro zin ?_
        refine m_isSub (by omega) _ _ (tIsType_rng htt) (by show 0 ≤ (hTy h (ix (lN T).toInt32) - 16).toInt ∧ (hTy h (ix (lN T).toInt32) - 16).toInt < 64; rw [eTT]; exact tIsType_rng hty) ?_
        rw [show hTy (hCp h A (B0 + p) i) (ix (lN T).toInt32) - 16 = hTy h T - 16 by rw [eTT]; rfl]
        rw [show tSub (hTy (hCp h A (B0 + p) i) (ix (mMoved m i).toInt32)) (hTy h T - 16) = fit i from hf.symm]
        refine And.intro (fun z => ?_) (fun z => ?_)
        · rw [bI_ne0] at z
          exact hgo z
        · rw [bI_eq0] at z
          refine m_fail (S := (hCp h A (B0 + p) i, S.2)) (m := m) (by omega) _ _ ?_
          unfold cFit at h2
          rw [z, cond_false] at h2
          exact h2 i rfl (by omega)
set_option maxRecDepth 100000 in
set_option maxHeartbeats 1000000 in
theorem mv_76 {e : Nat} (he : 1 ≤ e) {P : SP} {S : SS} {m : MS} {Q : xQ} {nd nb s p n : Int32} {F T : Nat} (hF : F < 400) (hT : T < 400) (f1 : hIsArray S.1 (nI F) = true) (g1 : hIsArray S.1 (nI T) = true) (hbad : (hHasEls S.1 (nI F) s n && hHasEls S.1 (nI T) p n) = false → Q none (wM P (sFail S 2 nd) m)) (hgood : (hHasEls S.1 (nI F) s n && hHasEls S.1 (nI T) p n) = true → Ev (Cd e) cdX8_move Q 139 [(0, .ref 0), (1, .int nd), (2, .long (lN F)), (4, .long s.toInt64), (6, .long (lN T)), (8, .long p.toInt64), (10, .int n), (11, .int nb)] [] (wM P S m)) : Ev (Cd e) cdX8_move Q 76 [(0, .ref 0), (1, .int nd), (2, .long (lN F)), (4, .long s.toInt64), (6, .long (lN T)), (8, .long p.toInt64), (10, .int n), (11, .int nb)] [] (wM P S m) := by
  unfold hHasEls at hbad hgood
  have eF : (lN F).toInt32 = nI F := lN_i F
  have eT : (lN T).toInt32 = nI T := lN_i T
  have zF : vp_in (lN F).toInt32 400 := by rw [eF]; exact vp_in_nI hF (by decide)
  have zT : vp_in (lN T).toInt32 400 := by rw [eT]; exact vp_in_nI hT (by decide)
  rw [f1, g1] at hbad hgood
  have l1 : (s.toInt64 < 0) ↔ s < 0 := lt64 (b := 0)
  have l2 : (p.toInt64 < 0) ↔ p < 0 := lt64 (b := 0)
  refine Ev.go (Cd.mono e) [139] 100 ?_
  refine And.intro (fun h1 => ?_) (fun h1 => ?_)
  · rw [lc_lt, l1] at h1
    refine m_fail he _ _ ?_
    refine hbad ?_
    rw [decide_eq_true h1]
    simp
  · rw [lc_lt, l1] at h1
    refine And.intro (fun h2 => ?_) (fun h2 => ?_)
    · rw [lc_lt, l2] at h2
      refine m_fail he _ _ ?_
      refine hbad ?_
      rw [decide_eq_true h2]
      simp
    · rw [lc_lt, l2] at h2
      refine And.intro (fun h3 => ?_) (fun h3 => ?_)
      · refine m_fail he _ _ ?_
        refine hbad ?_
        rw [decide_eq_true (show n < 0 from h3)]
        simp
      · refine And.intro zF ?_
        rw [eF]
        refine And.intro (fun h4 => ?_) (fun h4 => ?_)
        · have h4 : (hLe S.1 (ix (nI F))).toInt64 < s.toInt64 + n.toInt64 := by rw [lc_gt] at h4; exact h4
          refine m_fail he _ _ ?_
          refine hbad ?_
          rw [decide_eq_true h4]
          simp
        · have h4 : ¬ (hLe S.1 (ix (nI F))).toInt64 < s.toInt64 + n.toInt64 := by rw [lc_gt] at h4; exact h4
          refine And.intro zT ?_
          rw [eT]
          refine And.intro (fun h5 => ?_) (fun h5 => ?_)
          · have h5 : ¬ (hLe S.1 (ix (nI T))).toInt64 < p.toInt64 + n.toInt64 := by rw [lc_le] at h5; exact h5
            refine hgood ?_
            rw [decide_eq_false h1, decide_eq_false h2, decide_eq_false (show ¬ n < 0 from h3), decide_eq_false h4, decide_eq_false h5]
            rfl
          · have h5 : (hLe S.1 (ix (nI T))).toInt64 < p.toInt64 + n.toInt64 := by rw [lc_le] at h5; exact Decidable.not_not.mp h5
            refine m_fail he _ _ ?_
            refine hbad ?_
            rw [decide_eq_true h5]
            simp
