/-! the simulation of MAKE -/
def mSz (P : SP) (n : Int32) : Int32 := bif decide (pc' P (ix n) = -1) then 1 else bif decide (pd P (ix n) = -1) then 2 else 3
def mSet3 (m : MS) (i : Nat) (a b c : Int64) : MS := (m.1, (mDeep m, mAt m, mStage m, mIndex m, mFRef m, x_up (mFirst m) i a, x_up (mSecond m) i b, x_up (mThird m) i c, m.2.1.2.2.2.2.2.2.2.2), m.2.2)
theorem TOP.set3 {k : Nat} {m0 : MS} {n s b : Int32} {S : SS} {m : MS} (t : TOP k m0 n s b S m) (x y z : Int64) : TOP k m0 n s b S (mSet3 m k x y z) := by
  refine ⟨t.1, t.2.1, ?_, t.2.2.2⟩
  intro j hj
  rw [← t.2.2.1 j hj]
  unfold mRow mSet3
  simp only [mStage, mAt, mIndex, mFRef, mFirst, mSecond, mThird, mFourth, mReal, mBase]
  rw [x_up_ne _ _ (by omega), x_up_ne _ _ (by omega), x_up_ne _ _ (by omega)]
set_option maxRecDepth 100000 in
set_option maxHeartbeats 1000000 in
theorem mk_20 {e : Nat} {P : SP} {S : SS} {m : MS} {Q : xQ} {n s : Int32} (hdp : vp_in (mDeep m - 1) 100) (hs : s = 0 ∨ s = 1 ∨ s = 2 ∨ s = 3) (h : Ev (Cd e) cdX8_stepMake Q 96 [(0, .ref 0), (1, .int n), (2, .int s), (3, .int (mDeep m - 1)), (4, .int (mCame m).toInt32)] [] (wM P S (mSet3 m (ix (mDeep m - 1)) (bif decide (s = 1) then (mCame m).toInt32.toInt64 else mFirst m (ix (mDeep m - 1))) (bif decide (s = 2) then (mCame m).toInt32.toInt64 else mSecond m (ix (mDeep m - 1))) (bif decide (s = 3) then (mCame m).toInt32.toInt64 else mThird m (ix (mDeep m - 1)))))) : Ev (Cd e) cdX8_stepMake Q 20 [(0, .ref 0), (1, .int n), (2, .int s), (3, .int (mDeep m - 1))] [] (wM P S m) := by
  rcases hs with rfl | rfl | rfl | rfl
  · refine Ev.go (Cd.mono e) [96] 100 ?_
    refine And.intro (fun _ => ?_) (fun z => absurd z (show ¬ (0 : Int32) = 1 by decide))
    refine And.intro hdp ?_
    refine And.intro hdp ?_
    refine And.intro (fun _ => ?_) (fun z => absurd z (show ¬ (0 : Int32) = 2 by decide))
    refine And.intro hdp ?_
    refine And.intro hdp ?_
    refine And.intro (fun _ => ?_) (fun z => absurd z (show ¬ (0 : Int32) = 3 by decide))
    refine And.intro hdp ?_
    refine And.intro hdp ?_
    exact h
  · refine Ev.go (Cd.mono e) [96] 100 ?_
    refine And.intro (fun z => absurd rfl z) (fun _ => ?_)
    refine And.intro hdp ?_
    refine And.intro (fun _ => ?_) (fun z => absurd z (show ¬ (1 : Int32) = 2 by decide))
    refine And.intro hdp ?_
    refine And.intro hdp ?_
    refine And.intro (fun _ => ?_) (fun z => absurd z (show ¬ (1 : Int32) = 3 by decide))
    refine And.intro hdp ?_
    refine And.intro hdp ?_
    exact h
  · refine Ev.go (Cd.mono e) [96] 100 ?_
    refine And.intro (fun _ => ?_) (fun z => absurd z (show ¬ (2 : Int32) = 1 by decide))
    refine And.intro hdp ?_
    refine And.intro hdp ?_
    refine And.intro (fun z => absurd rfl z) (fun _ => ?_)
    refine And.intro hdp ?_
    refine And.intro (fun _ => ?_) (fun z => absurd z (show ¬ (2 : Int32) = 3 by decide))
    refine And.intro hdp ?_
    refine And.intro hdp ?_
    exact h
  · refine Ev.go (Cd.mono e) [96] 100 ?_
    refine And.intro (fun _ => ?_) (fun z => absurd z (show ¬ (3 : Int32) = 1 by decide))
    refine And.intro hdp ?_
    refine And.intro hdp ?_
    refine And.intro (fun _ => ?_) (fun z => absurd z (show ¬ (3 : Int32) = 2 by decide))
    refine And.intro hdp ?_
    refine And.intro hdp ?_
    refine And.intro (fun z => absurd rfl z) (fun _ => ?_)
    refine And.intro hdp ?_
    exact h
set_option maxRecDepth 100000 in
set_option maxHeartbeats 1000000 in
theorem mk_96 {e : Nat} {P : SP} {S : SS} {m : MS} {Q : xQ} {n s f q : Int32} (hn : vp_in n 80) (h : Ev (Cd e) cdX8_stepMake Q 127 [(0, .ref 0), (1, .int n), (2, .int s), (3, .int f), (4, .int q), (5, .int (mSz P n))] [] (wM P S m)) : Ev (Cd e) cdX8_stepMake Q 96 [(0, .ref 0), (1, .int n), (2, .int s), (3, .int f), (4, .int q)] [] (wM P S m) := by
  unfold mSz at h
  refine Ev.go (Cd.mono e) [127] 100 ?_
  refine And.intro hn ?_
  refine And.intro (fun h1 => ?_) (fun h1 => ?_)
  · rw [decide_eq_false (show ¬ pc' P (ix n) = -1 from h1), cond_false] at h
    refine And.intro hn ?_
    refine And.intro (fun h2 => ?_) (fun h2 => ?_)
    · rw [decide_eq_false (show ¬ pd P (ix n) = -1 from h2), cond_false] at h
      exact h
    · rw [decide_eq_true (show pd P (ix n) = -1 from h2), cond_true] at h
      exact h
  · rw [decide_eq_true (show pc' P (ix n) = -1 from h1), cond_true] at h
    exact h
set_option maxRecDepth 100000 in
set_option maxHeartbeats 1000000 in
theorem mk_next {e : Nat} (he : 3 ≤ e) {P : SP} {S : SS} {m : MS} {Q : xQ} {n s f q z c : Int32} (hn : vp_in n 80) (hz : ¬ z ≤ s) (hs : (s = 0 ∧ c = pb P (ix n)) ∨ (s = 1 ∧ c = pc' P (ix n)) ∨ (s = 2 ∧ c = pd P (ix n))) (hc : vp_in c 80) (hd : vp_in (mDeep m) 100) (hd1 : vp_in (mDeep m - 1) 100) (h : Q none (wM P (mNext P S m c).1 (mNext P S m c).2)) : Ev (Cd e) cdX8_stepMake Q 127 [(0, .ref 0), (1, .int n), (2, .int s), (3, .int f), (4, .int q), (5, .int z)] [] (wM P S m) := by
  rcases hs with ⟨rfl, rfl⟩ | ⟨rfl, rfl⟩ | ⟨rfl, rfl⟩
  · refine Ev.go (Cd.mono e) [171] 100 ?_
    refine And.intro (fun y => absurd y hz) (fun _ => ?_)
    refine And.intro (fun y => absurd rfl y) (fun _ => ?_)
    refine And.intro hn ?_
    refine m_next he _ hc hd hd1 ?_
    exact h
  · refine Ev.go (Cd.mono e) [171] 100 ?_
    refine And.intro (fun y => absurd y hz) (fun _ => ?_)
    refine And.intro (fun _ => ?_) (fun y => absurd y (by decide))
    refine And.intro (fun y => absurd rfl y) (fun _ => ?_)
    refine And.intro hn ?_
    refine m_next he _ hc hd hd1 ?_
    exact h
  · refine Ev.go (Cd.mono e) [171] 100 ?_
    refine And.intro (fun y => absurd y hz) (fun _ => ?_)
    refine And.intro (fun _ => ?_) (fun y => absurd y (by decide))
    refine And.intro (fun _ => ?_) (fun y => absurd y (by decide))
    refine And.intro hn ?_
    refine m_next he _ hc hd hd1 ?_
    exact h
set_option maxRecDepth 100000 in
set_option maxHeartbeats 1000000 in
theorem mk_127 {e : Nat} {P : SP} {S : SS} {m : MS} {Q : xQ} {n s f q z : Int32} (hz : z ≤ s) (hf : vp_in f 100) (h : Ev (Cd e) cdX8_stepMake Q 215 [(0, .ref 0), (1, .int n), (2, .int s), (3, .int f), (4, .int q), (5, .int z), (6, .long (mFirst m (ix f))), (8, .long (bif decide (z ≤ 1) then 0 else mSecond m (ix f))), (10, .long (bif decide (z ≤ 2) then 0 else mThird m (ix f)))] [] (wM P S m)) : Ev (Cd e) cdX8_stepMake Q 127 [(0, .ref 0), (1, .int n), (2, .int s), (3, .int f), (4, .int q), (5, .int z)] [] (wM P S m) := by
  refine Ev.go (Cd.mono e) [215] 100 ?_
  refine And.intro (fun _ => ?_) (fun y => absurd hz y)
  refine And.intro hf ?_
  refine And.intro (fun h1 => ?_) (fun h1 => ?_)
  · rw [decide_eq_true (show z ≤ 1 from h1), cond_true] at h
    refine And.intro (fun h2 => ?_) (fun h2 => ?_)
    · rw [decide_eq_true (show z ≤ 2 from h2), cond_true] at h
      exact h
    · rw [decide_eq_false (show ¬ z ≤ 2 from h2), cond_false] at h
      refine And.intro hf ?_
      exact h
  · rw [decide_eq_false (show ¬ z ≤ 1 from h1), cond_false] at h
    refine And.intro hf ?_
    refine And.intro (fun h2 => ?_) (fun h2 => ?_)
    · rw [decide_eq_true (show z ≤ 2 from h2), cond_true] at h
      exact h
    · rw [decide_eq_false (show ¬ z ≤ 2 from h2), cond_false] at h
      refine And.intro hf ?_
      exact h
set_option maxRecDepth 100000 in
set_option maxHeartbeats 1000000 in
theorem mk_215 {e : Nat} (he : 1 ≤ e) {P : SP} {S : SS} {m : MS} {Q : xQ} {n s f q z : Int32} {x y w : Int64} (hN : (decide (x < 0) || (decide (y < 0) || decide (w < 0))) = true → Q none (wM P (sFail S 4 n) m)) (h : (decide (x < 0) || (decide (y < 0) || decide (w < 0))) = false → Ev (Cd e) cdX8_stepMake Q 243 [(0, .ref 0), (1, .int n), (2, .int s), (3, .int f), (4, .int q), (5, .int z), (6, .long x), (8, .long y), (10, .long w)] [] (wM P S m)) : Ev (Cd e) cdX8_stepMake Q 215 [(0, .ref 0), (1, .int n), (2, .int s), (3, .int f), (4, .int q), (5, .int z), (6, .long x), (8, .long y), (10, .long w)] [] (wM P S m) := by
  refine Ev.go (Cd.mono e) [243] 100 ?_
  refine And.intro (fun h1 => ?_) (fun h1 => ?_)
  · have h1 : x < 0 := by rw [lc_lt] at h1; exact h1
    rw [decide_eq_true h1] at hN
    refine m_fail he _ _ ?_
    exact hN rfl
  · have h1 : ¬ x < 0 := by rw [lc_lt] at h1; exact h1
    rw [decide_eq_false h1, Bool.false_or] at hN h
    refine And.intro (fun h2 => ?_) (fun h2 => ?_)
    · have h2 : y < 0 := by rw [lc_lt] at h2; exact h2
      rw [decide_eq_true h2] at hN
      refine m_fail he _ _ ?_
      exact hN rfl
    · have h2 : ¬ y < 0 := by rw [lc_lt] at h2; exact h2
      rw [decide_eq_false h2, Bool.false_or] at hN h
      refine And.intro (fun h3 => ?_) (fun h3 => ?_)
      · have h3 : ¬ w < 0 := by rw [lc_ge] at h3; exact h3
        exact h (decide_eq_false h3)
      · have h3 : w < 0 := by rw [lc_ge] at h3; exact Decidable.not_not.mp h3
        refine m_fail he _ _ ?_
        exact hN (decide_eq_true h3)
set_option maxRecDepth 100000 in
set_option maxHeartbeats 1000000 in
theorem mk_371a {e : Nat} (he : 1 ≤ e) {P : SP} {S : SS} {m : MS} {Q : xQ} {n s f q a12 : Int32} {y w a13 a15 a17 : Int64} (hn : vp_in n 80) {X : Nat} (hr : RO S.1 1 X) (hdp : vp_in (mDeep m - 1) 100) (h : Q none (wM P (mGive (uMk S.1 (pa P (ix n)) (nI X), S.2) m 1 (hTh S.1).toInt64).1 (mGive (uMk S.1 (pa P (ix n)) (nI X), S.2) m 1 (hTh S.1).toInt64).2)) : Ev (Cd e) cdX8_stepMake Q 371 [(0, .ref 0), (1, .int n), (2, .int s), (3, .int f), (4, .int q), (5, .int 1), (6, .long (lN X)), (8, .long y), (10, .long w), (12, .int a12), (13, .long a13), (15, .long a15), (17, .long a17)] [] (wM P S m) := by
  obtain ⟨h0, h1, h2, h3⟩ := hr
  have hXi : (nI X).toInt = X := nI_toInt (by omega)
  refine Ev.go (Cd.mono e) [389] 100 ?_
  refine And.intro hn ?_
  refine m_make he _ _ (vp_in_iff.mpr ⟨h0, by omega⟩) h2 (Or.inr ⟨by rw [lN_i, hXi]; omega, by rw [lN_i, hXi]; omega⟩) ?_
  rw [lN_i]
  refine Ev.go (Cd.mono e) [] 100 ?_
  refine And.intro (fun _ => ?_) (fun _ => ?_)
  · refine m_give (S := (uMk S.1 (pa P (ix n)) (nI X), S.2)) (m := m) he _ _ (Or.inr rfl) hdp ?_
    exact h
  · refine And.intro (fun _ => ?_) (fun z => absurd (Int32.le_refl _) z)
    refine m_give (S := (uMk S.1 (pa P (ix n)) (nI X), S.2)) (m := m) he _ _ (Or.inr rfl) hdp ?_
    exact h
set_option maxRecDepth 100000 in
set_option maxHeartbeats 1000000 in
theorem mk_371b {e : Nat} (he : 1 ≤ e) {P : SP} {S : SS} {m : MS} {Q : xQ} {n s f q z a12 : Int32} {w a13 a15 a17 : Int64} (hn : vp_in n 80) (X Y Z : Nat) (th : Bool) (hz : z = (bif th then 3 else 2)) (hw : th = true → w = lN Z) (hX : X < 2 ^ 31) (hY : Y < 2 ^ 31) {A B : Nat} (hA : A = 1 + (bif th then Y else 0)) (hB : B = Y + (bif th then Y * Z else 0)) (hr : RO S.1 (1 + X * A) (X + X * B)) (hdp : vp_in (mDeep m - 1) 100)
    (h : Q none (wM P (mGive (uOut (uMk S.1 (pa P (ix n)) (nI X)) (pa P (ix n)) (nI Y) (nI Z) th (ix (hEl S.1)) X, S.2) m 1 (hTh S.1).toInt64).1 (mGive (uOut (uMk S.1 (pa P (ix n)) (nI X)) (pa P (ix n)) (nI Y) (nI Z) th (ix (hEl S.1)) X, S.2) m 1 (hTh S.1).toInt64).2)) : Ev (Cd e) cdX8_stepMake Q 371 [(0, .ref 0), (1, .int n), (2, .int s), (3, .int f), (4, .int q), (5, .int z), (6, .long (lN X)), (8, .long (lN Y)), (10, .long w), (12, .int a12), (13, .long a13), (15, .long a15), (17, .long a17)] [] (wM P S m) := by
  have hr1 := hr.less (a' := 1) (e' := X) (by omega) (by omega)
  obtain ⟨j1, j2, j3⟩ := uMk_cnt (t := pa P (ix n)) (l := nI X) rfl hr1
  obtain ⟨h0, h1, h2, h3⟩ := hr
  have hXi : (nI X).toInt = X := nI_toInt (by omega)
  have hTin : vp_in (hTh S.1) 400 := vp_in_iff.mpr ⟨h0, by omega⟩
  have eg := ix_eq (hEl S.1)
  have hst : hSt (uMk S.1 (pa P (ix n)) (nI X)) (ix (hTh S.1)) = nI (ix (hEl S.1)) := by
    rw [uMk_new.1, ix_eq]
    exact nI_toI h2
  have hloop := mk_out_loop (Q := Q) (P := P) (S := S) (m := m) (n := n) (s := s) (f := f) (q := q) (z := z) (a12 := a12) (a13 := a13) (a15 := a15) (a17 := a17) (w := w) (T := hTh S.1) he hn (uMk S.1 (pa P (ix n)) (nI X)) X Y Z (ix (hEl S.1)) th hz hw hX hY hTin (by omega) hst (by omega) hA hB ⟨by omega, by omega, by omega, by omega⟩ hdp h X 0 (Nat.zero_add _) [] (Or.inl rfl)
  refine Ev.go (Cd.mono e) [389] 100 ?_
  refine And.intro hn ?_
  refine m_make he _ _ hTin h2 (Or.inr ⟨by rw [lN_i, hXi]; omega, by rw [lN_i, hXi]; omega⟩) ?_
  rw [lN_i]
  exact hloop
theorem hTh_ne {h : SH} (h0 : 0 ≤ (hTh h).toInt) : ¬ hTh h = -1 := fun y => by rw [y] at h0; exact absurd h0 (by decide)
theorem hMAs_1 {h : SH} (hI : hInv h) {t : Int32} (ht : tIsArr t = true) {X : Nat} (hX : X < 2 ^ 31) (hr : RO h 1 X) : hMAs h t (nI X) (-1) (-1) = (hTh h, uMk h t (nI X)) := by
  obtain ⟨r1, r2⟩ := RO_room hI.1 (z := nI X) rfl hr
  unfold hMAs
  rw [(hRoom_1 hI.1 hX).mpr hr, hMA_T hI ht r1 r2]
  simp
theorem hMAs_2 {h : SH} (hI : hInv h) {t u : Int32} (ht : tIsArr t = true) (ht1 : tIsArr (t - 16) = true) (hu : u = -1 ∨ tIsArr (t - 16 - 16) = true) {X Y Z : Nat} (hX : X < 2 ^ 31) (hY : Y < 2 ^ 31) (hz : ¬ u = -1 → u = nI Z) {A B : Nat} (hA : A = 1 + (bif !decide (u = -1) then Y else 0)) (hB : B = Y + (bif !decide (u = -1) then Y * Z else 0)) (hroom : hRoom h (nI X) (nI Y) u = true) (hr : RO h (1 + X * A) (X + X * B)) : hMAs h t (nI X) (nI Y) u = (hTh h, uOut (uMk h t (nI X)) t (nI Y) u (!decide (u = -1)) (ix (hEl h)) X) := by
  have hr1 := hr.less (a' := 1) (e' := X) (by omega) (by omega)
  obtain ⟨r1, r2⟩ := RO_room hI.1 (z := nI X) rfl hr1
  obtain ⟨j1, j2, j3⟩ := uMk_cnt (t := t) (l := nI X) rfl hr1
  obtain ⟨h0, h1, h2, h3⟩ := hr
  have hinv : hInv (uMk h t (nI X)) := by
    have := (hInv_MA hI (n := nI X) ht).1
    rw [hMA_T hI ht r1 r2] at this
    exact this
  have egT := ix_eq (hTh h)
  have hTn : hTh h = nI (ix (hTh h)) := by rw [ix_eq]; exact nI_toI h0
  have hnew := uMk_new (h := h) (t := t) (l := nI X)
  have hXi : (nI X).toInt = X := nI_toInt hX
  have key := hIn2_uOut hinv (t := t) (y := nI Y) (u := u) (mm := ix (hTh h)) rfl hY hz ht1 hu (by omega) (by rw [hnew.2]; exact nI_ne rfl hX) hA hB X (by rw [hnew.2, hXi]; omega) ⟨by omega, by omega, by omega, by omega⟩
  rw [← hTn, hnew.1] at key
  unfold hMAs
  rw [hroom, hMA_T hI ht r1 r2]
  simp only [Bool.not_true, cond_false, decide_eq_false (hTh_ne h0), decide_eq_false (nI_ne (a := nI Y) rfl hY), Bool.or_false]
  rw [ix_nI hX, key]
