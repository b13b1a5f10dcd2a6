/-! the reference's other calls -/
set_option maxRecDepth 100000 in
set_option maxHeartbeats 1000000 in
theorem m_note {D : Nat} (hD : 2 ≤ D) {P : SP} {S : SS} {m : MS} {Q : xQ} (hT : 0 ≤ (rT S.2.2).toInt) (i : Int32) (h : Q (some (.int (sKept S i))) (wM P S m)) : Cd D 153 [.ref 0, .int i] (wM P S m) Q := by
  refine Cd.up hD ?_
  refine Cd.mk cdX8_note 2 4 1 [(0, .ref 0), (1, .int i)] rfl rfl rfl rfl 100 ?_
  unfold sKept at h
  have e1 : (1 : Int32).toInt = 1 := rfl
  have e2 : (256 : Int32).toInt = 256 := rfl
  have hr := i_rng (rT S.2.2)
  have key : ∀ q : Int32, 0 ≤ q.toInt → (q.toInt ≤ (rT S.2.2).toInt ∧ q.toInt ≤ 256 ∧ (q.toInt = (rT S.2.2).toInt ∨ q.toInt = 256)) → lIn i.toInt64 0 (q - 1).toInt64 = !(decide (i < 0) || (decide (rT S.2.2 ≤ i) || decide (256 ≤ i))) := by
    intro q hq0 ⟨hq1, hq2, hq3⟩
    have z : lIn i.toInt64 (0 : Int32).toInt64 (q - 1).toInt64 = (!decide (i < 0) && !decide (q - 1 < i)) := lIn_i
    have z2 : decide (q - 1 < i) = (decide (rT S.2.2 ≤ i) || decide (256 ≤ i)) := by
      rw [← Bool.decide_or, decide_eq_decide, Int32.lt_iff_toInt_lt, Int32.le_iff_toInt_le, Int32.le_iff_toInt_le, i_sub (by omega) (by omega)]
      omega
    rw [z2] at z
    rw [Bool.not_or]
    exact z
  have hgo : ∀ q : Int32, lIn i.toInt64 0 (q - 1).toInt64 = !(decide (i < 0) || (decide (rT S.2.2 ≤ i) || decide (256 ≤ i))) → (lIn i.toInt64 0 (q - 1).toInt64 = true → vp_in i 256) := by
    intro q hq ht
    rw [ht] at hq
    have hq := (Bool.not_eq_true' _).mp hq.symm
    obtain ⟨c1, c2⟩ := Bool.or_eq_false_iff.mp hq
    obtain ⟨c3, c4⟩ := Bool.or_eq_false_iff.mp c2
    have c1 := i_not_lt (of_decide_eq_false c1)
    have c4 := i_not_le (of_decide_eq_false c4)
    have z : (0 : Int32).toInt = 0 := rfl
    exact vp_in_iff.mpr ⟨by omega, by omega⟩
  refine And.intro (fun g => ?_) (fun g => ?_)
  · have g := i_le g
    have k := key 256 (by decide) ⟨g, by decide, Or.inr rfl⟩
    refine m_in (by decide) _ _ _ ?_
    refine And.intro (fun z => ?_) (fun z => ?_)
    · rw [bI_eq0] at z
      have z : lIn i.toInt64 0 ((256 : Int32) - 1).toInt64 = false := z
      rw [k] at z
      rw [Bool.not_eq_false'] at z
      rw [z, cond_true] at h
      exact h
    · rw [bI_ne0] at z
      refine And.intro (hgo _ k z) ?_
      have z : lIn i.toInt64 0 ((256 : Int32) - 1).toInt64 = true := z
      rw [k, Bool.not_eq_true'] at z
      rw [z, cond_false] at h
      exact h
  · have g := i_not_le g
    have g : (rT S.2.2).toInt < 256 := g
    have k := key (rT S.2.2) hT ⟨Int.le_refl _, by omega, Or.inl rfl⟩
    refine m_in (by decide) _ _ _ ?_
    refine And.intro (fun z => ?_) (fun z => ?_)
    · rw [bI_eq0] at z
      have z : lIn i.toInt64 0 (rT S.2.2 - 1).toInt64 = false := z
      rw [k] at z
      rw [Bool.not_eq_false'] at z
      rw [z, cond_true] at h
      exact h
    · rw [bI_ne0] at z
      refine And.intro (hgo _ k z) ?_
      have z : lIn i.toInt64 0 (rT S.2.2 - 1).toInt64 = true := z
      rw [k, Bool.not_eq_true'] at z
      rw [z, cond_false] at h
      exact h
set_option maxRecDepth 100000 in
set_option maxHeartbeats 1000000 in
theorem m_has {D : Nat} (hD : 3 ≤ D) {P : SP} {S : SS} {m : MS} {Q : xQ} (hr : RM S m) (hv : ∀ j, vOK S.1 (vK S.2.1 j) (vA S.2.1 j)) (v : Int32) (h : Q (some (.int (bif isVar v then vK S.2.1 (ix v) else -2))) (wM P S m)) : Cd D 154 [.ref 0, .int v] (wM P S m) Q := by
  refine Cd.up hD ?_
  refine Cd.mk cdX8_has 2 4 1 [(0, .ref 0), (1, .int v)] rfl rfl rfl rfl 100 ?_
  refine m_isVariable (by decide) v ?_
  cases hi : isVar v
  · rw [hi] at h
    refine And.intro (fun z => absurd rfl z) (fun _ => ?_)
    exact h
  · rw [hi, cond_true] at h
    have hin := isVar_in hi
    refine And.intro (fun _ => ?_) (fun z => absurd z (by decide))
    refine And.intro hin ?_
    have e : mIsRef m (ix v) = bI (!decide (vK S.2.1 (ix v) = 0)) := hr.1 _
    by_cases hz : vK S.2.1 (ix v) = 0
    · rw [decide_eq_true hz] at e
      rw [hz] at h
      refine And.intro (fun z => absurd e z) (fun _ => ?_)
      exact h
    · rw [decide_eq_false hz] at e
      refine And.intro (fun _ => ?_) (fun z => absurd (e.symm.trans z) ne10)
      refine And.intro hin ?_
      rcases vOK_ref (hv (ix v)) hz with x | x
      · rw [x.1] at h
        refine And.intro (fun z => absurd x.2.2 (by rw [lc_ge] at z; exact z)) (fun _ => ?_)
        exact h
      · rw [x.1] at h
        refine And.intro (fun _ => ?_) (fun z => absurd (by rw [lc_ge]; exact x.2.1) z)
        exact h
set_option maxRecDepth 100000 in
set_option maxHeartbeats 1000000 in
theorem m_get {D : Nat} (hD : 3 ≤ D) {P : SP} {S : SS} {m : MS} {Q : xQ} (v : Int32) (h : Q (some (.long (bif isVar v then vA S.2.1 (ix v) else 0))) (wM P S m)) : Cd D 155 [.ref 0, .int v] (wM P S m) Q := by
  refine Cd.up hD ?_
  refine Cd.mk cdX8_get 2 4 1 [(0, .ref 0), (1, .int v)] rfl rfl rfl rfl 100 ?_
  refine m_isVariable (by decide) v ?_
  cases hi : isVar v
  · rw [hi] at h
    refine And.intro (fun _ => ?_) (fun z => absurd rfl z)
    exact h
  · rw [hi, cond_true] at h
    refine And.intro (fun z => absurd z (by decide)) (fun _ => ?_)
    refine And.intro (isVar_in hi) ?_
    exact h
set_option maxRecDepth 100000 in
set_option maxHeartbeats 1000000 in
theorem m_told {D : Nat} (hD : 1 ≤ D) {P : SP} {S : SS} {m : MS} {Q : xQ} (w : Int32) (h : Q (some (.int (toldQ P S w))) (wM P S m)) : Cd D 159 [.ref 0, .int w] (wM P S m) Q := by
  refine Cd.up hD ?_
  refine Cd.mk cdX8_told 2 4 1 [(0, .ref 0), (1, .int w)] rfl rfl rfl rfl 100 ?_
  unfold toldQ at h
  refine And.intro (fun h0 => ?_) (fun h0 => ?_)
  · rw [decide_eq_false (show ¬ w = 0 from h0), cond_false] at h
    refine And.intro (fun h1 => ?_) (fun h1 => ?_)
    · rw [decide_eq_false (show ¬ w = 1 from h1), cond_false] at h
      refine And.intro (fun h2 => ?_) (fun h2 => ?_)
      · rw [decide_eq_false (show ¬ w = 2 from h2), cond_false] at h
        exact h
      · rw [decide_eq_true (show w = 2 from h2), cond_true] at h
        exact h
    · rw [decide_eq_true (show w = 1 from h1), cond_true] at h
      exact h
  · rw [decide_eq_true (show w = 0 from h0), cond_true] at h
    exact h
theorem in_thing {h : SH} (hh : hOK h) (t : Int32) : lIn t.toInt64 0 (hTh h - 1).toInt64 = hIsThing h t := by
  have z : lIn t.toInt64 (0 : Int32).toInt64 (hTh h - 1).toInt64 = (!decide (t < 0) && !decide (hTh h - 1 < t)) := lIn_i
  have e1 : (1 : Int32).toInt = 1 := rfl
  have h0 := hh.1
  have h4 := hh.2.1
  have z2 : decide (hTh h - 1 < t) = decide (hTh h ≤ t) := by
    rw [decide_eq_decide, Int32.lt_iff_toInt_lt, Int32.le_iff_toInt_le, i_sub (by omega) (by omega)]
    omega
  rw [z2] at z
  exact z
set_option maxRecDepth 100000 in
set_option maxHeartbeats 1000000 in
theorem m_element {D : Nat} (hD : 2 ≤ D) {P : SP} {S : SS} {m : MS} {Q : xQ} (hI : hInv S.1) (t i : Int32) (h : Q (some (.long (hAmAt S.1 t i))) (wM P S m)) : Cd D 157 [.ref 0, .int t, .int i] (wM P S m) Q := by
  refine Cd.up hD ?_
  refine Cd.mk cdX8_element 3 4 2 [(0, .ref 0), (1, .int t), (2, .int i)] rfl rfl rfl rfl 100 ?_
  refine m_in (by decide) _ _ _ ?_
  rw [show lIn t.toInt64 0 (hTh S.1 - 1).toInt64 = hIsThing S.1 t from in_thing hI.1 t]
  unfold hAmAt hHasEl hIsArray at h
  cases ht : hIsThing S.1 t
  · rw [ht] at h
    refine And.intro (fun _ => ?_) (fun z => absurd rfl z)
    exact h
  · rw [ht] at h
    refine And.intro (fun z => absurd z (by decide)) (fun _ => ?_)
    have hin := hIsThing_in hI.1 ht
    refine And.intro (fun h1 => ?_) (fun h1 => ?_)
    · rw [decide_eq_true (show i < 0 from h1)] at h
      simp only [Bool.not_true, Bool.false_and, Bool.and_false, cond_false] at h
      exact h
    · have h1 : ¬ i < 0 := h1
      rw [decide_eq_false h1] at h
      refine And.intro hin ?_
      refine And.intro (fun h2 => ?_) (fun h2 => ?_)
      · rw [decide_eq_true (show hLe S.1 (ix t) ≤ i from h2)] at h
        simp only [Bool.not_true, Bool.and_false, cond_false] at h
        exact h
      · have h2 : ¬ hLe S.1 (ix t) ≤ i := h2
        have hl : ¬ hLe S.1 (ix t) = -1 := fun y => by
          have a1 := i_not_lt h1
          have a2 := i_not_le h2
          rw [y] at a2
          have z : (0 : Int32).toInt = 0 := rfl
          have z2 : (-1 : Int32).toInt = -1 := rfl
          omega
        rw [decide_eq_false h2, decide_eq_false hl] at h
        have he : hHasEl S.1 t i = true := by
          unfold hHasEl hIsArray
          rw [ht, decide_eq_false h1, decide_eq_false h2, decide_eq_false hl]
          rfl
        have zt : t.toInt64.toInt32 = t := Int32.toInt32_toInt64 t
        have zi : i.toInt64.toInt32 = i := Int32.toInt32_toInt64 i
        refine m_placeOf (by decide) _ _ (by rw [zt]; exact hin) ?_
        rw [zt, zi]
        refine And.intro (hCell_in hI.1 he) ?_
        exact h
/-! thing -/
set_option maxRecDepth 100000 in
set_option maxHeartbeats 1000000 in
theorem m_thing_end {d : Nat} {P : SP} {S : SS} {m : MS} {Q : xQ} {t w c i : Int32} (ht : vp_in t 400) (hw : w = 0 ∨ w = 1 ∨ w = 2) (h : Q (some (.int (bif decide (w = 0) then hTy S.1 (ix t) else bif decide (w = 1) then hLe S.1 (ix t) else c))) (wM P S m)) : Ev (Cd d) cdX8_thing Q 89 [(0, .ref 0), (1, .int t), (2, .int w), (3, .int c), (4, .int i)] [] (wM P S m) := by
  refine Ev.go (Cd.mono d) [] 100 ?_
  refine And.intro (fun h0 => ?_) (fun h0 => ?_)
  · rw [decide_eq_false (show ¬ w = 0 from h0), cond_false] at h
    refine And.intro (fun h1 => ?_) (fun h1 => ?_)
    · rw [decide_eq_false (show ¬ w = 1 from h1), cond_false] at h
      exact h
    · rw [decide_eq_true (show w = 1 from h1), cond_true] at h
      refine And.intro ht ?_
      exact h
  · rw [decide_eq_true (show w = 0 from h0), cond_true] at h
    refine And.intro ht ?_
    exact h
set_option maxRecDepth 100000 in
set_option maxHeartbeats 1000000 in
theorem m_thing_loop {d : Nat} (hd : 2 ≤ d) {P : SP} {S : SS} {m : MS} {Q : xQ} {w : Int32} (hI : hInv S.1) {T L : Nat} (hT : (T : Int) < (hTh S.1).toInt) (hL : hLe S.1 T = nI L) (hL4 : L < 2 ^ 31) (hn : tIsNum (hTy S.1 T - 16) = false) (h : Ev (Cd d) cdX8_thing Q 89 [(0, .ref 0), (1, .int (nI T)), (2, .int w), (3, .int (nI (hCount S.1 (nI T) L))), (4, .int (nI L))] [] (wM P S m)) : ∀ j i : Nat, i + j = L → Ev (Cd d) cdX8_thing Q 36 [(0, .ref 0), (1, .int (nI T)), (2, .int w), (3, .int (nI (hCount S.1 (nI T) i))), (4, .int (nI i))] [] (wM P S m)
  | 0, i, hi => by
    have hi : i = L := by omega
    subst hi
    have h400 := hI.1.2.1
    have eT : ix (nI T) = T := ix_nI (by omega)
    refine Ev.go (Cd.mono d) [89] 100 ?_
    refine And.intro (vp_in_nI (by omega) (by decide)) ?_
    refine And.intro (fun _ => ?_) (fun z => absurd (by show hLe S.1 (ix (nI T)) ≤ nI i; rw [eT, hL]; exact Int32.le_refl _) z)
    exact h
  | j + 1, i, hi => by
    have h400 := hI.1.2.1
    have eT : ix (nI T) = T := ix_nI (by omega)
    have hin : vp_in (nI T) 400 := vp_in_nI (by omega) (by decide)
    have hne : ¬ hLe S.1 T = -1 := by rw [hL]; exact nI_ne rfl hL4
    have zt : (nI T).toInt64.toInt32 = nI T := Int32.toInt32_toInt64 _
    obtain ⟨f1, f2, f3, f4, f5, f6, f7⟩ := arr_facts hI hT hne
    have hi1 : 0 ≤ (nI i).toInt := by rw [nI_toInt (by omega)]; omega
    have hi2 : (nI i).toInt < (hLe S.1 T).toInt := by rw [hL, nI_toInt (by omega), nI_toInt (by omega)]; omega
    obtain ⟨g1, g2, g3, g4⟩ := el_facts hI hT hne hi1 hi2
    have ham : hAmAt S.1 (nI T) (nI i) = hAm S.1 (ix (hSt S.1 T + nI i)) := by unfold hAmAt; rw [g1, eT]; rfl
    have h8 : decide (8 ≤ hTy S.1 T - 16) = true := by
      have := tIsNum_8 f3
      rw [hn] at this
      rw [Bool.not_eq_false'] at this
      exact this
    have h24 : 24 ≤ (hTy S.1 T).toInt := by
      have q := hNums_rng hI f1
      rw [eT] at q
      by_cases c : (hTy S.1 T).toInt < 24
      · have := q.mpr c
        unfold hNums at this
        rw [f2, hn] at this
        cases this
      · omega
    have hcnt : hCount S.1 (nI T) (i + 1) = hCount S.1 (nI T) i + (bif decide (hAm S.1 (ix (hSt S.1 T + nI i)) = -1) then 0 else 1) := by
      show hCount S.1 (nI T) i + (bif decide (hKindAt S.1 (nI T) (nI i) = 2) then 1 else 0) = _
      unfold hKindAt hNums
      rw [f2, hn, ham, cond_false]
      cases decide (hAm S.1 (ix (hSt S.1 T + nI i)) = -1) <;> rfl
    have hre := hI.2.2.2.2 T hT hne h24 i (by rw [hL, nI_toInt (by omega)]; omega)
    rw [ix_nI (k := i) (by omega)] at g4
    rw [← g4] at hre
    have ih := m_thing_loop (Q := Q) (P := P) (S := S) (m := m) (w := w) hd hI hT hL hL4 hn h j (i + 1) (by omega)
    rw [hcnt, ← nI_add, ← nI_1] at ih
    refine Ev.go (Cd.mono d) [36, 89] 100 ?_
    refine And.intro hin ?_
    refine And.intro (fun z => absurd z (by show ¬ hLe S.1 (ix (nI T)) ≤ nI i; rw [eT, hL]; exact nI_ge (by omega) (by omega))) (fun _ => ?_)
    refine m_holdsRefs hd _ (by rw [zt]; exact hin) ?_
    rw [zt, eT, h8]
    refine And.intro (fun z => absurd z (by decide)) (fun _ => ?_)
    refine And.intro hin ?_
    rw [show (nI T).toNatClampNeg = T from eT]
    refine And.intro g2 ?_
    rcases hre with q | ⟨u, hu, q⟩
    · rw [decide_eq_true q] at ih
      refine And.intro (fun _ => ?_) (fun z => absurd (by rw [lc_lt]; show hAm S.1 (ix (hSt S.1 T + nI i)) < 0; rw [q]; decide) z)
      exact ih
    · have hnl : ¬ hAm S.1 (ix (hSt S.1 T + nI i)) < 0 := by
        rw [q, Int64.lt_iff_toInt_lt, lN_toInt (by omega)]
        show ¬ (u : Int) < 0
        omega
      have hn1 : ¬ hAm S.1 (ix (hSt S.1 T + nI i)) = -1 := fun y => hnl (by rw [y]; decide)
      rw [decide_eq_false hn1] at ih
      refine And.intro (fun z => absurd (by rw [lc_lt] at z; exact z) hnl) (fun _ => ?_)
      exact ih
theorem hCount_0 {h : SH} {t : Int32} (hk : ∀ i : Int32, ¬ hKindAt h t i = 2) : ∀ n, hCount h t n = 0
  | 0 => rfl
  | n + 1 => by
    show hCount h t n + (bif decide (hKindAt h t (nI n) = 2) then 1 else 0) = 0
    rw [hCount_0 hk n, decide_eq_false (hk _)]
    rfl
set_option maxRecDepth 100000 in
set_option maxHeartbeats 1000000 in
theorem m_thing {D : Nat} (hD : 3 ≤ D) {P : SP} {S : SS} {m : MS} {Q : xQ} (hI : hInv S.1) (t w : Int32) (h : Q (some (.int (hThing S.1 t w))) (wM P S m)) : Cd D 156 [.ref 0, .int t, .int w] (wM P S m) Q := by
  refine Cd.up hD ?_
  refine Cd.mk cdX8_thing 5 4 2 [(0, .ref 0), (1, .int t), (2, .int w)] rfl rfl rfl rfl 0 ?_
  refine Ev.go (Cd.mono 2) [36] 100 ?_
  refine m_in (by decide) _ _ _ ?_
  rw [show lIn t.toInt64 0 (hTh S.1 - 1).toInt64 = hIsThing S.1 t from in_thing hI.1 t]
  unfold hThing at h
  cases ht : hIsThing S.1 t
  · rw [ht] at h
    refine And.intro (fun _ => ?_) (fun z => absurd rfl z)
    exact h
  · rw [ht] at h
    simp only [Bool.not_true, cond_false] at h
    refine And.intro (fun z => absurd z (by decide)) (fun _ => ?_)
    have hin := hIsThing_in hI.1 ht
    obtain ⟨T, hT, rfl⟩ := vp_in_of hin (by decide)
    have eT : ix (nI T) = T := ix_nI (by omega)
    have hTT : (T : Int) < (hTh S.1).toInt := by
      have := (hIsThing_rng ht).2
      rw [nI_toInt (by omega)] at this
      exact this
    refine m_in (by decide) _ _ _ ?_
    have ew : lIn w.toInt64 0 2 = (!decide (w < 0) && !decide (2 < w)) := lIn_i (a := 0) (b := 2)
    have eW : lIn w.toInt64 0 2 = (decide (w = 0) || (decide (w = 1) || decide (w = 2))) := by
      rw [ew, ← decide_not, ← decide_not, ← Bool.decide_and, ← Bool.decide_or, ← Bool.decide_or, decide_eq_decide, Int32.lt_iff_toInt_lt, Int32.lt_iff_toInt_lt, ← Int32.toInt_inj, ← Int32.toInt_inj, ← Int32.toInt_inj]
      have z0 : (0 : Int32).toInt = 0 := rfl
      have z1 : (1 : Int32).toInt = 1 := rfl
      have z2 : (2 : Int32).toInt = 2 := rfl
      omega
    rw [eW]
    have hno : ¬ w = 0 → ¬ w = 1 → ¬ w = 2 → Q (some (.int (-2))) (wM P S m) := by
      intro a b c
      rw [decide_eq_false a, decide_eq_false b, decide_eq_false c] at h
      exact h
    have hyes : (w = 0 ∨ w = 1 ∨ w = 2) → Ev (Cd 2) cdX8_thing Q 36 [(0, .ref 0), (1, .int (nI T)), (2, .int w), (3, .int 0), (4, .int 0)] [] (wM P S m) := by
      intro hw
      have eTy : hTypeOf S.1 (nI T) = hTy S.1 T := by unfold hTypeOf; rw [ht, eT]; rfl
      have eLe : hLenOf S.1 (nI T) = hLe S.1 T := by unfold hLenOf; rw [ht, eT]; rfl
      have hgo : Q (some (.int (bif decide (w = 0) then hTy S.1 (ix (nI T)) else bif decide (w = 1) then hLe S.1 (ix (nI T)) else nI (hCount S.1 (nI T) (ix (hLe S.1 T)))))) (wM P S m) := by
        rw [eTy, eLe] at h
        rw [eT]
        rcases hw with z | z | z
        · rw [decide_eq_true z] at h ⊢; exact h
        · rw [dne z (by decide), decide_eq_true z] at h ⊢; exact h
        · rw [dne z (by decide), dne z (by decide), decide_eq_true z] at h; rw [dne z (by decide), dne z (by decide)]; exact h
      by_cases hl : hLe S.1 T = -1
      · rw [hl] at hgo
        refine Ev.go (Cd.mono 2) [89] 100 ?_
        refine And.intro hin ?_
        refine And.intro (fun _ => ?_) (fun z => absurd (by show hLe S.1 (ix (nI T)) ≤ 0; rw [eT, hl]; decide) z)
        exact m_thing_end hin hw hgo
      · obtain ⟨f1, f2, f3, f4, f5, f6, f7⟩ := arr_facts hI hTT hl
        have hLn := nI_toI f6
        have hr := i_rng (hLe S.1 T)
        cases hn : tIsNum (hTy S.1 T - 16)
        · refine m_thing_loop (w := w) (Nat.le_refl _) hI hTT hLn (by omega) hn ?_ (hLe S.1 T).toInt.toNat 0 (Nat.zero_add _)
          exact m_thing_end hin hw hgo
        · have hc0 : hCount S.1 (nI T) (ix (hLe S.1 T)) = 0 := hCount_0 (fun i => by unfold hKindAt hNums; rw [f2, hn, cond_true]; decide) _
          rw [hc0] at hgo
          have h8 : decide (8 ≤ hTy S.1 T - 16) = false := by
            have := tIsNum_8 f3
            rw [hn] at this
            rw [Bool.not_eq_true'] at this
            exact this
          have zt : (nI T).toInt64.toInt32 = nI T := Int32.toInt32_toInt64 _
          refine Ev.go (Cd.mono 2) [89] 100 ?_
          refine And.intro hin ?_
          refine And.intro (fun _ => ?_) (fun _ => ?_)
          · exact m_thing_end hin hw hgo
          · refine m_holdsRefs (by decide) _ (by rw [zt]; exact hin) ?_
            rw [zt, eT, h8]
            refine And.intro (fun _ => ?_) (fun z => absurd rfl z)
            exact m_thing_end hin hw hgo
    by_cases h0 : w = 0
    · rw [decide_eq_true h0, Bool.true_or]
      refine And.intro (fun _ => ?_) (fun z => absurd z (by decide))
      exact hyes (Or.inl h0)
    · by_cases h1 : w = 1
      · rw [decide_eq_true h1, Bool.true_or, Bool.or_true]
        refine And.intro (fun _ => ?_) (fun z => absurd z (by decide))
        exact hyes (Or.inr (Or.inl h1))
      · by_cases h2 : w = 2
        · rw [decide_eq_true h2, Bool.or_true, Bool.or_true]
          refine And.intro (fun _ => ?_) (fun z => absurd z (by decide))
          exact hyes (Or.inr (Or.inr h2))
        · rw [decide_eq_false h0, decide_eq_false h1, decide_eq_false h2]
          refine And.intro (fun z => absurd rfl z) (fun _ => ?_)
          exact hno h0 h1 h2
