/-! MOVE, its whole -/
set_option maxRecDepth 100000 in
set_option maxHeartbeats 1000000 in
theorem mv_139 {e : Nat} (he : 2 ≤ e) {P : SP} {S : SS} {m : MS} {Q : xQ} {nd nb s p n : Int32} {F T : Nat} (hI : hInv S.1) (hF : (F : Int) < (hTh S.1).toInt) (hT : (T : Int) < (hTh S.1).toInt) (hlT : ¬ hLe S.1 T = -1) (ok1 : hHasEls S.1 (nI F) s n = true) (ok2 : hHasEls S.1 (nI T) p n = true) (fit : Nat → Bool) (hfit : ∀ j, j < ix n → ∀ m' : MS, mMoved m' j = hAm S.1 (ix (hSt S.1 F) + ix s + j) → MF S.1 m' nb T fit j) (hdp : vp_in (mDeep m - 1) 100)
    (h1 : cFit fit (ix n) 0 = ix n → ∀ mv mr, Q none (wM P (mGive (hCpy S.1 (hSt S.1 F + s) (hSt S.1 T + p) n, S.2) (mMv m mv mr) 0 n.toInt64).1 (mGive (hCpy S.1 (hSt S.1 F + s) (hSt S.1 T + p) n, S.2) (mMv m mv mr) 0 n.toInt64).2))
    (h2 : ∀ r, cFit fit (ix n) 0 = r → r < ix n → ∀ mv mr, Q none (wM P (sFail (hCpy S.1 (hSt S.1 F + s) (hSt S.1 T + p) (nI r), S.2) 3 nd) (mMv m mv mr))) : Ev (Cd e) cdX8_move Q 139 [(0, .ref 0), (1, .int nd), (2, .long (lN F)), (4, .long s.toInt64), (6, .long (lN T)), (8, .long p.toInt64), (10, .int n), (11, .int nb)] [] (wM P S m) := by
  have h400 := hI.1.2.1
  have eF : ix (nI F) = F := ix_nI (by omega)
  have eT : ix (nI T) = T := ix_nI (by omega)
  obtain ⟨a1, a2, a3, a4, a5, a6, a7⟩ := hHasEls_rng hI.1 ok1
  obtain ⟨b1, b2, b3, b4, b5, b6, b7⟩ := hHasEls_rng hI.1 ok2
  rw [eF] at a4 a5 a6 a7
  rw [eT] at b4 b5 b6 b7
  obtain ⟨sN, hs, rfl⟩ := nI_of (i_nneg a2)
  obtain ⟨pN, hp, rfl⟩ := nI_of (i_nneg b2)
  obtain ⟨N, hN, rfl⟩ := nI_of (i_nneg a3)
  obtain ⟨A0, hA0, eA⟩ := nI_of (i_nneg a6)
  obtain ⟨B0, hB0, eB⟩ := nI_of (i_nneg b6)
  rw [eA, nI_toInt hA0, nI_toInt hs, nI_toInt hN] at a7
  rw [eB, nI_toInt hB0, nI_toInt hp, nI_toInt hN] at b7
  rw [eA, ix_nI hA0, ix_nI hs, ix_nI hN] at hfit
  rw [eA, eB, ix_nI hN, nI_add, nI_add] at h1 h2
  have hcp : ∀ r, r ≤ N → hCpy S.1 (nI (A0 + sN)) (nI (B0 + pN)) (nI r) = hCp S.1 (A0 + sN) (B0 + pN) r := by
    intro r hr
    unfold hCpy hCp
    rw [ix_nI (k := A0 + sN) (by omega), ix_nI (k := B0 + pN) (by omega), ix_nI (k := r) (by omega)]
  rw [hcp N (Nat.le_refl _)] at h1
  rw [nI_l hs, nI_l hp]
  have hty := (arr_facts hI hT hlT).2.2.1
  have hmv : ∀ j, j < N → mMoved (mMv m (va_cpy (hAm S.1) (mMoved m) (A0 + sN) 0 N) (va_cpy (hRe S.1) (mMovedR m) (A0 + sN) 0 N)) j = hAm S.1 (A0 + sN + j) ∧ mMovedR (mMv m (va_cpy (hAm S.1) (mMoved m) (A0 + sN) 0 N) (va_cpy (hRe S.1) (mMovedR m) (A0 + sN) 0 N)) j = hRe S.1 (A0 + sN + j) := fun j hj => ⟨cpyin_at _ _ _ hj, cpyin_at _ _ _ hj⟩
  have hout := mv_out_loop (Q := Q) (P := P) (S := S) (m := mMv m (va_cpy (hAm S.1) (mMoved m) (A0 + sN) 0 N) (va_cpy (hRe S.1) (mMovedR m) (A0 + sN) 0 N)) (nd := nd) (nb := nb) (x := lN F) (y := lN sN) he S.1 T B0 pN (A0 + sN) N fit (by omega) eB (by omega) hty hmv (fun j hj => hfit j hj _ (hmv j hj).1) hdp N 0 (Nat.zero_add _) (fun z => h1 z _ _) (fun r z z2 => by
    have := h2 r z z2 (va_cpy (hAm S.1) (mMoved m) (A0 + sN) 0 N) (va_cpy (hRe S.1) (mMovedR m) (A0 + sN) 0 N)
    rw [hcp r (by omega)] at this
    exact this)
  have e0 : hCp S.1 (A0 + sN) (B0 + pN) 0 = S.1 := by
    unfold hCp
    rw [cpy_0, cpy_0]
  rw [e0] at hout
  have h201 : Ev (Cd e) cdX8_move Q 201 [(0, .ref 0), (1, .int nd), (2, .long (lN F)), (4, .long (lN sN)), (6, .long (lN T)), (8, .long (lN pN)), (10, .int (nI N)), (11, .int nb), (12, .int (nI N))] [] (wM P S (mMv m (va_cpy (hAm S.1) (mMoved m) (A0 + sN) 0 N) (va_cpy (hRe S.1) (mMovedR m) (A0 + sN) 0 N))) := by
    refine Ev.go (Cd.mono e) [204] 100 ?_
    exact hout
  have hin := mv_in_loop (Q := Q) (P := P) (S := S) (m := m) (nd := nd) (nb := nb) (z := lN T) (p := lN pN) (by omega) F A0 sN N (by omega) eA (by omega) h201 N 0 (Nat.zero_add _)
  rw [cpyin_0, cpyin_0] at hin
  refine Ev.go (Cd.mono e) [142] 100 ?_
  exact hin
theorem sub16_inj {a b : Int32} : (a - 16 = b - 16) ↔ (a = b) := by
  constructor
  · intro h
    have := congrArg (fun q : Int32 => q + 16) h
    simpa using this
  · intro h; rw [h]
set_option maxRecDepth 100000 in
set_option maxHeartbeats 1000000 in
theorem mv_refs {h : SH} (hI : hInv h) {F T : Nat} {s n : Int32} (hF : (F : Int) < (hTh h).toInt) (hlF : ¬ hLe h F = -1) (h24 : 24 ≤ (hTy h F).toInt) (ok1 : hHasEls h (nI F) s n = true) : ∀ j, j < ix n → ∀ m' : MS, mMoved m' j = hAm h (ix (hSt h F) + ix s + j) → MF h m' 0 T (hFitAt h (nI F) s (hTy h T - 16)) j := by
  intro j hj m' hm
  have h400 := hI.1.2.1
  have eF : ix (nI F) = F := ix_nI (by omega)
  obtain ⟨a1, a2, a3, a4, a5, a6, a7⟩ := hHasEls_rng hI.1 ok1
  rw [eF] at a4 a5 a6 a7
  obtain ⟨sN, hs, rfl⟩ := nI_of (i_nneg a2)
  have hx := ix_eq n
  have e1 : (nI sN).toInt = sN := nI_toInt hs
  have hr := i_rng n
  have e2 : (nI (sN + j)).toInt = ((sN + j : Nat) : Int) := nI_toInt (by omega)
  rw [ix_nI hs] at hm
  obtain ⟨g1, g2, g3, g4⟩ := el_facts hI hF hlF (i := nI (sN + j)) (by omega) (by omega)
  rw [ix_nI (k := sN + j) (by omega)] at g4
  have ham : hAmAt h (nI F) (nI sN + nI j) = mMoved m' j := by
    unfold hAmAt
    rw [nI_add, g1, eF, hm, Nat.add_assoc, g4]
    rfl
  refine Or.inr ⟨rfl, ?_⟩
  unfold hFitAt
  rw [ham]
  have hre := hI.2.2.2.2 F hF hlF h24 (sN + j) (by omega)
  rw [← Nat.add_assoc, ← hm] at hre
  rcases hre with q | ⟨u, hu, q⟩
  · left
    rw [q]
    exact ⟨by decide, rfl⟩
  · right
    obtain ⟨f1, f2, f3, f4, f5⟩ := thing_facts hI hu
    rw [q, f1, f2]
    refine ⟨?_, f3, f5, ?_⟩
    · rw [Int64.lt_iff_toInt_lt, lN_toInt (by omega)]
      show ¬ (u : Int) < 0
      omega
    · rw [decide_eq_false (nI_ne rfl (by omega : u < 2 ^ 31)), Bool.false_or]
      unfold hTypeOf
      rw [f4, f2]
      rfl
set_option maxRecDepth 100000 in
set_option maxHeartbeats 1000000 in
theorem m_move {D : Nat} (hD : 3 ≤ D) {P : SP} {S : SS} {m : MS} {Q : xQ} (nd : Int32) (x z : Int64) (s p n : Int32) (hI : hInv S.1) (hx : aOK S.1 x) (hz : aOK S.1 z) (hdp : vp_in (mDeep m - 1) 100)
    (h1 : ∀ h' mv mr, oMove nd x.toInt32 s z.toInt32 p n S = (true, sGive (h', S.2) 0 n.toInt64) → Q none (wM P (mGive (h', S.2) (mMv m mv mr) 0 n.toInt64).1 (mGive (h', S.2) (mMv m mv mr) 0 n.toInt64).2))
    (h2 : ∀ (c : Int32) h' mv mr, 0 < c.toInt → oMove nd x.toInt32 s z.toInt32 p n S = (false, sFail (h', S.2) c nd) → Q none (wM P (sFail (h', S.2) c nd) (mMv m mv mr))) : Cd D 142 [.ref 0, .int nd, .long x, .long s.toInt64, .long z, .long p.toInt64, .int n] (wM P S m) Q := by
  have h400 := hI.1.2.1
  refine Cd.up hD ?_
  refine Cd.mk cdX8_move 13 4 6 [(0, .ref 0), (1, .int nd), (2, .long x), (4, .long s.toInt64), (6, .long z), (8, .long p.toInt64), (10, .int n)] rfl rfl rfl rfl 0 ?_
  refine Ev.go (Cd.mono 2) [20] 100 ?_
  have hmm : mMv m (mMoved m) (mMovedR m) = m := rfl
  rcases hx with hx | ⟨F, hF, hlF, hx⟩
  · have hneg : x < 0 := by rw [hx]; decide
    refine And.intro (fun _ => ?_) (fun y => absurd (by rw [lc_lt]; exact hneg) y)
    refine m_fail (by decide) _ _ ?_
    refine h2 1 S.1 (mMoved m) (mMovedR m) (by decide) ?_
    unfold oMove
    rw [hx, show (-1 : Int64).toInt32 = -1 from rfl, decide_eq_true (rfl : (-1 : Int32) = -1)]
    rfl
  have hxi : x.toInt32 = nI F := by rw [hx]; exact lN_i F
  have hnx : ¬ x < 0 := by
    rw [hx, Int64.lt_iff_toInt_lt, lN_toInt (by omega)]
    show ¬ (F : Int) < 0
    omega
  refine And.intro (fun y => absurd (by rw [lc_lt] at y; exact y) hnx) (fun _ => ?_)
  have nF : ¬ nI F = -1 := nI_ne rfl (by omega)
  rcases hz with hz | ⟨T, hT, hlT, hz⟩
  · have hneg : z < 0 := by rw [hz]; decide
    refine And.intro (fun y => absurd hneg (by rw [lc_ge] at y; exact y)) (fun _ => ?_)
    refine m_fail (by decide) _ _ ?_
    refine h2 1 S.1 (mMoved m) (mMovedR m) (by decide) ?_
    unfold oMove
    rw [hz, show (-1 : Int64).toInt32 = -1 from rfl, decide_eq_true (rfl : (-1 : Int32) = -1), Bool.or_true]
    rfl
  have hzi : z.toInt32 = nI T := by rw [hz]; exact lN_i T
  have hnz : ¬ z < 0 := by
    rw [hz, Int64.lt_iff_toInt_lt, lN_toInt (by omega)]
    show ¬ (T : Int) < 0
    omega
  refine And.intro (fun _ => ?_) (fun y => absurd (by rw [lc_ge]; exact hnz) y)
  have nT : ¬ nI T = -1 := nI_ne rfl (by omega)
  have eF : ix (nI F) = F := ix_nI (by omega)
  have eT : ix (nI T) = T := ix_nI (by omega)
  rw [hxi, hzi] at h1 h2
  subst hx hz
  obtain ⟨f1, f2, f3, f4, f5, f6, f7⟩ := arr_facts hI hF hlF
  obtain ⟨g1, g2, g3, g4, g5, g6, g7⟩ := arr_facts hI hT hlT
  have zF : vp_in (lN F).toInt32 400 := by rw [hxi]; exact vp_in_nI (by omega) (by decide)
  have zT : vp_in (lN T).toInt32 400 := by rw [hzi]; exact vp_in_nI (by omega) (by decide)
  have nuF : hNums S.1 (nI F) = tIsNum (hTy S.1 F - 16) := by unfold hNums; rw [f2]
  have nuT : hNums S.1 (nI T) = tIsNum (hTy S.1 T - 16) := by unfold hNums; rw [g2]
  have q24 := hNums_rng hI f1
  rw [nuF, eF] at q24
  have d8F : decide (8 ≤ hTy S.1 (ix (lN F).toInt32) - 16) = !tIsNum (hTy S.1 F - 16) := by rw [hxi, eF, ← tIsNum_8 f3, Bool.not_not]
  have d8T : decide (8 ≤ hTy S.1 (ix (lN T).toInt32) - 16) = !tIsNum (hTy S.1 T - 16) := by rw [hzi, eT, ← tIsNum_8 g3, Bool.not_not]
  unfold oMove hMove at h1 h2
  rw [decide_eq_false nF, decide_eq_false nT, nuF, nuT, f2, g2, eF, eT] at h1 h2
  simp only [Bool.or_false, cond_false] at h1 h2
  refine Ev.go (Cd.mono 2) [35] 100 ?_
  refine m_holdsRefs (by decide) _ zF ?_
  rw [d8F]
  cases hnF : tIsNum (hTy S.1 F - 16)
  · refine And.intro (fun _ => ?_) (fun y => absurd y (by decide))
    rw [hnF] at h1 h2 q24
    have h24 : 24 ≤ (hTy S.1 F).toInt := by
      by_cases c : (hTy S.1 F).toInt < 24
      · exact absurd (q24.mpr c) (by decide)
      · omega
    refine Ev.go (Cd.mono 2) [76] 100 ?_
    refine m_holdsRefs (by decide) _ zT ?_
    rw [d8T]
    cases hnT : tIsNum (hTy S.1 T - 16)
    · rw [hnT] at h1 h2
      simp only [Bool.false_and, Bool.or_false, bne_self_eq_false, cond_false] at h1 h2
      refine And.intro (fun y => absurd y (by decide)) (fun _ => ?_)
      refine And.intro (fun _ => ?_) (fun y => absurd rfl y)
      refine mv_76 (by decide) (by omega) (by omega) f1 g1 ?_ ?_
      · intro hb
        rw [hb] at h2
        exact h2 2 S.1 (mMoved m) (mMovedR m) (by decide) rfl
      · intro hb
        rw [hb] at h1 h2
        simp only [Bool.not_true, cond_false] at h1 h2
        obtain ⟨o1, o2⟩ := Bool.and_eq_true_iff.mp hb
        have hn0 := (hHasEls_rng hI.1 o1).2.2.1
        have hnn : nI (ix n) = n := (nI_toI hn0).symm
        refine mv_139 (Nat.le_refl _) hI hF hT hlT o1 o2 (hFitAt S.1 (nI F) s (hTy S.1 T - 16)) (mv_refs hI hF hlF h24 o1) hdp ?_ ?_
        · intro hc mv mr
          rw [cFit_hFits] at hc
          rw [hc, hnn, decide_eq_true (rfl : n = n)] at h1
          exact h1 _ mv mr rfl
        · intro r hc hr mv mr
          rw [cFit_hFits] at hc
          have hrb : r < 2 ^ 31 := by
            have u1 := (i_rng n).2
            have u2 := ix_eq n
            omega
          have hrn : ¬ nI r = n := fun y => by
            rw [← y, ix_nI hrb] at hr
            omega
          rw [hc, decide_eq_false hrn] at h2
          exact h2 3 _ mv mr (by decide) rfl
    · rw [hnT] at h2
      refine And.intro (fun _ => ?_) (fun y => absurd rfl y)
      refine m_fail (by decide) _ _ ?_
      exact h2 3 S.1 (mMoved m) (mMovedR m) (by decide) rfl
  · refine And.intro (fun y => absurd rfl y) (fun _ => ?_)
    rw [hnF] at h1 h2
    refine Ev.go (Cd.mono 2) [76] 100 ?_
    refine m_holdsRefs (by decide) _ zT ?_
    rw [d8T]
    cases hnT : tIsNum (hTy S.1 T - 16)
    · rw [hnT] at h2
      refine And.intro (fun _ => ?_) (fun y => absurd rfl y)
      refine m_fail (by decide) _ _ ?_
      exact h2 3 S.1 (mMoved m) (mMovedR m) (by decide) rfl
    · rw [hnT] at h1 h2
      simp only [Bool.true_and, bne_self_eq_false, Bool.false_or, cond_true] at h1 h2
      refine And.intro (fun y => absurd y (by decide)) (fun _ => ?_)
      refine And.intro (fun y => absurd y (by decide)) (fun _ => ?_)
      refine And.intro zF ?_
      refine And.intro zT ?_
      rw [hxi, hzi, show (nI F).toNatClampNeg = F from eF, show (nI T).toNatClampNeg = T from eT]
      refine And.intro (fun he => ?_) (fun he => ?_)
      · have he : hTy S.1 F = hTy S.1 T := he
        rw [decide_eq_true (show hTy S.1 T - 16 = hTy S.1 F - 16 by rw [he])] at h1 h2
        simp only [Bool.not_true, cond_false] at h1 h2
        refine mv_76 (by decide) (by omega) (by omega) f1 g1 ?_ ?_
        · intro hb
          rw [hb] at h2
          exact h2 2 S.1 (mMoved m) (mMovedR m) (by decide) rfl
        · intro hb
          rw [hb] at h1 h2
          simp only [Bool.not_true, cond_false] at h1 h2
          obtain ⟨o1, o2⟩ := Bool.and_eq_true_iff.mp hb
          refine mv_139 (Nat.le_refl _) hI hF hT hlT o1 o2 (fun _ => true) (fun j _ m' _ => Or.inl ⟨by decide, rfl⟩) hdp ?_ ?_
          · intro hc mv mr
            exact h1 _ mv mr rfl
          · intro r hc hr mv mr
            rw [cFit_all _ _ (fun _ _ => rfl)] at hc
            omega
      · have he : ¬ hTy S.1 F = hTy S.1 T := he
        rw [decide_eq_false (show ¬ hTy S.1 T - 16 = hTy S.1 F - 16 from fun y => he (sub16_inj.mp y).symm)] at h2
        refine m_fail (by decide) _ _ ?_
        exact h2 3 S.1 (mMoved m) (mMovedR m) (by decide) rfl
