/-! the reference: failing, entering, giving -/
def mSetR (m : MS) (r : Int32) (c : Int64) : MS := ((r, c, m.1.2.2.1, m.1.2.2.2), m.2)
def mSetDeep (m : MS) (d : Int32) : MS := (m.1, (d, m.2.1.2), m.2.2)
def mPush (m : MS) (n h : Int32) : MS := (m.1, (mDeep m + 1, x_up (mAt m) (ix (mDeep m)) n, x_up (mStage m) (ix (mDeep m)) 0, x_up (mIndex m) (ix (mDeep m)) 0, mFRef m, mFirst m, mSecond m, mThird m, mFourth m, mReal m, x_up (mBase m) (ix (mDeep m)) h), m.2.2)
def mSetStage (m : MS) (k : Nat) (v : Int32) : MS := (m.1, (mDeep m, mAt m, x_up (mStage m) k v, m.2.1.2.2.2), m.2.2)
def mSetIndex (m : MS) (k : Nat) (v : Int32) : MS := (m.1, (mDeep m, mAt m, mStage m, x_up (mIndex m) k v, m.2.1.2.2.2.2), m.2.2)
abbrev SM : Type := SS × MS
set_option maxRecDepth 100000 in
set_option maxHeartbeats 1000000 in
theorem m_fail {D : Nat} (hD : 1 ≤ D) {P : SP} {S : SS} {m : MS} {Q : xQ} (c n : Int32) (h : Q none (wM P (sFail S c n) m)) : Cd D 112 [.ref 0, .int c, .int n] (wM P S m) Q := by
  refine Cd.up hD ?_
  refine Cd.mk cdX8_fail 3 4 2 [(0, .ref 0), (1, .int c), (2, .int n)] rfl rfl rfl rfl 100 ?_
  exact h
def mEnter (P : SP) (S : SS) (m : MS) (n : Int32) : SM :=
  bif decide (pC P (ix n) = 10) then (sFail S 9 n, m) else bif decide (rN S.2.2 = 3000) then (sFail S 10 n, m) else (sWork S, mPush m n (vH S.2.1))
set_option maxRecDepth 100000 in
set_option maxHeartbeats 1000000 in
theorem m_enter {D : Nat} (hD : 2 ≤ D) {P : SP} {S : SS} {m : MS} {Q : xQ} (n : Int32) (hn : vp_in n 80) (hd : vp_in (mDeep m) 100) (h : Q none (wM P (mEnter P S m n).1 (mEnter P S m n).2)) : Cd D 113 [.ref 0, .int n] (wM P S m) Q := by
  refine Cd.up hD ?_
  refine Cd.mk cdX8_enter 2 4 1 [(0, .ref 0), (1, .int n)] rfl rfl rfl rfl 100 ?_
  unfold mEnter at h
  refine And.intro hn ?_
  refine And.intro (fun h1 => ?_) (fun h1 => ?_)
  · simp only [decide_eq_false h1, cond_false] at h
    refine And.intro (fun h2 => ?_) (fun h2 => ?_)
    · simp only [decide_eq_false h2, cond_false] at h
      refine And.intro hd ?_
      refine And.intro hd ?_
      refine And.intro hd ?_
      refine And.intro hd ?_
      exact h
    · simp only [decide_eq_true h2, cond_true] at h
      refine m_fail (by decide) _ _ ?_
      exact h
  · simp only [decide_eq_true h1, cond_true] at h
    refine m_fail (by decide) _ _ ?_
    exact h
def mGive (S : SS) (m : MS) (r : Int32) (v : Int64) : SM := (sHeld S (mBase m (ix (mDeep m - 1))), mSetDeep (mSetR m r v) (mDeep m - 1))
set_option maxRecDepth 100000 in
set_option maxHeartbeats 1000000 in
theorem m_give {D : Nat} (hD : 1 ≤ D) {P : SP} {S : SS} {m : MS} {Q : xQ} (r : Int32) (v : Int64) (hr : r = 0 ∨ r = 1) (hd : vp_in (mDeep m - 1) 100) (h : Q none (wM P (mGive S m r v).1 (mGive S m r v).2)) : Cd D 114 [.ref 0, .int r, .long v] (wM P S m) Q := by
  refine Cd.up hD ?_
  refine Cd.mk cdX8_give 4 4 2 [(0, .ref 0), (1, .int r), (2, .long v)] rfl rfl rfl rfl 100 ?_
  refine And.intro hr ?_
  refine And.intro hd ?_
  exact h
set_option maxRecDepth 100000 in
set_option maxHeartbeats 1000000 in
theorem m_number {D : Nat} (hD : 2 ≤ D) {P : SP} {S : SS} {m : MS} {Q : xQ} (v : Int64) (hd : vp_in (mDeep m - 1) 100) (h : Q none (wM P (mGive S m 0 v).1 (mGive S m 0 v).2)) : Cd D 115 [.ref 0, .long v] (wM P S m) Q := by
  refine Cd.up hD ?_
  refine Cd.mk cdX8_number 3 4 1 [(0, .ref 0), (1, .long v)] rfl rfl rfl rfl 100 ?_
  refine m_give (by decide) _ _ (Or.inl rfl) hd ?_
  exact h
def mNext (P : SP) (S : SS) (m : MS) (n : Int32) : SM := mEnter P S (mSetStage m (ix (mDeep m - 1)) (mStage m (ix (mDeep m - 1)) + 1)) n
set_option maxRecDepth 100000 in
set_option maxHeartbeats 1000000 in
theorem m_next {D : Nat} (hD : 3 ≤ D) {P : SP} {S : SS} {m : MS} {Q : xQ} (n : Int32) (hn : vp_in n 80) (hd : vp_in (mDeep m) 100) (hd1 : vp_in (mDeep m - 1) 100) (h : Q none (wM P (mNext P S m n).1 (mNext P S m n).2)) : Cd D 116 [.ref 0, .int n] (wM P S m) Q := by
  refine Cd.up hD ?_
  refine Cd.mk cdX8_next 2 4 1 [(0, .ref 0), (1, .int n)] rfl rfl rfl rfl 100 ?_
  refine And.intro hd1 ?_
  refine And.intro hd1 ?_
  refine m_enter (m := mSetStage m (ix (mDeep m - 1)) (mStage m (ix (mDeep m - 1)) + 1)) (by decide) n hn hd ?_
  exact h
/-! heap -/
def uRoom (h : SH) (a e : Int64) : Bool := !decide (400 < (hTh h).toInt64 + a) && !decide (4000 < (hEl h).toInt64 + e)
set_option maxRecDepth 100000 in
set_option maxHeartbeats 1000000 in
theorem m_hasRoom {D : Nat} (hD : 1 ≤ D) {P : SP} {S : SS} {m : MS} {Q : xQ} (a e : Int64) (h : Q (some (.int (bI (uRoom S.1 a e)))) (wM P S m)) : Cd D 119 [.ref 0, .long a, .long e] (wM P S m) Q := by
  refine Cd.up hD ?_
  refine Cd.mk cdX8_hasRoom 5 4 2 [(0, .ref 0), (1, .long a), (3, .long e)] rfl rfl rfl rfl 100 ?_
  unfold uRoom at h
  refine And.intro (fun h1 => ?_) (fun h1 => ?_)
  · rw [lc_gt] at h1
    rw [decide_eq_true h1] at h
    refine And.intro (Or.inl rfl) ?_
    exact h
  · rw [lc_gt] at h1
    rw [decide_eq_false h1] at h
    refine And.intro (fun h2 => ?_) (fun h2 => ?_)
    · rw [lc_gt] at h2
      rw [decide_eq_true h2] at h
      refine And.intro (Or.inl rfl) ?_
      exact h
    · rw [lc_gt] at h2
      rw [decide_eq_false h2] at h
      refine And.intro (Or.inr rfl) ?_
      exact h
def uNum (t : Int32) : Bool := decide (t >>> ((4 : Int32) &&& 31) = 1) && !decide (8 ≤ t &&& 15)
def fillV (am : Nat → Int64) (s : Nat) (v : Int64) : Nat → Nat → Int64
  | 0 => am
  | n + 1 => x_up (fillV am s v n) (s + n) v
def fillR (re : Nat → UInt64) (s : Nat) : Nat → Nat → UInt64
  | 0 => re
  | n + 1 => x_up (fillR re s n) (s + n) FP.dconst0
def uMid (h : SH) (t l : Int32) (n : Nat) : SH := (hTh h, hEl h, x_up (hTy h) (ix (hTh h)) t, x_up (hSt h) (ix (hTh h)) (hEl h), x_up (hLe h) (ix (hTh h)) l, fillV (hAm h) (ix (hEl h)) (bif uNum t then 0 else -1) n, fillR (hRe h) (ix (hEl h)) n)
def uMk (h : SH) (t l : Int32) : SH := (hTh h + 1, hEl h + (bif decide (l ≤ 0) then 0 else l), x_up (hTy h) (ix (hTh h)) t, x_up (hSt h) (ix (hTh h)) (hEl h), x_up (hLe h) (ix (hTh h)) l, fillV (hAm h) (ix (hEl h)) (bif uNum t then 0 else -1) (ix l), fillR (hRe h) (ix (hEl h)) (ix l))
set_option maxRecDepth 100000 in
set_option maxHeartbeats 1000000 in
theorem m_make_92 {d : Nat} {P : SP} {S : SS} {m : MS} {Q : xQ} (t l i : Int32) (h : Q (some (.int (hTh S.1))) (wM P (uMk S.1 t l, S.2) m)) : Ev (Cd d) cdX8_make Q 92 [(0, .ref 0), (1, .int t), (2, .int l), (3, .int i)] [] (wM P (uMid S.1 t l (ix l), S.2) m) := by
  refine Ev.go (Cd.mono d) [] 100 ?_
  unfold uMk at h
  refine And.intro (fun h1 => ?_) (fun h1 => ?_)
  · rw [decide_eq_true h1] at h
    show Q _ _
    rw [i_add1sub]
    exact h
  · rw [decide_eq_false h1] at h
    show Q _ _
    rw [i_add1sub]
    exact h
set_option maxRecDepth 100000 in
set_option maxHeartbeats 1000000 in
theorem m_make_loop {d : Nat} {P : SP} {S : SS} {m : MS} {Q : xQ} (t : Int32) (N s : Nat) (hs : hEl S.1 = nI s) (hN : s + N ≤ 4000) (h : Q (some (.int (hTh S.1))) (wM P (uMk S.1 t (nI N), S.2) m)) : ∀ (n i : Nat), i + n = N → Ev (Cd d) cdX8_make Q 35 [(0, .ref 0), (1, .int t), (2, .int (nI N)), (3, .int (nI i))] [] (wM P (uMid S.1 t (nI N) i, S.2) m)
  | 0, i, hi => by
    have hi : i = N := by omega
    subst hi
    refine Ev.go (Cd.mono d) [35, 92] 100 ?_
    refine And.intro (fun _ => ?_) (fun h1 => absurd (Int32.le_refl _) h1)
    have := m_make_92 (d := d) (Q := Q) t (nI i) (nI i) h
    rw [show ix (nI i) = i from nI_clamp (by omega)] at this
    exact this
  | n + 1, i, hi => by
    have hsi : hEl S.1 + nI i = nI (s + i) := by rw [hs, nI_add]
    have hc : (nI (s + i)).toNatClampNeg = s + i := nI_clamp (by omega)
    have hse : ix (hEl S.1) = s := by rw [hs]; exact nI_clamp (by omega)
    have hin : vp_in (hEl S.1 + nI i) 4000 := by rw [hsi]; exact vp_in_nI (by omega) (by omega)
    have ih := m_make_loop (d := d) (Q := Q) t N s hs hN h n (i + 1) (by omega)
    have e : ix (hEl S.1) + i = (hEl S.1 + nI i).toNatClampNeg := by rw [hse, hsi, hc]
    rw [← nI_1, uMid, fillV, fillR, e] at ih
    refine Ev.go (Cd.mono d) [35, 92] 100 ?_
    refine And.intro (fun h1 => absurd h1 (nI_ge (by omega) (by omega))) (fun _ => ?_)
    refine And.intro (fun g1 => ?_) (fun g1 => ?_)
    · have e1 : uNum t = false := by unfold uNum; rw [decide_eq_false g1]; rfl
      rw [e1] at ih
      refine And.intro hin ?_
      refine And.intro hin ?_
      show Ev _ _ _ _ _ _ _
      unfold uMid
      rw [e1]
      exact ih
    · refine And.intro (fun g2 => ?_) (fun g2 => ?_)
      · have e1 : uNum t = false := by unfold uNum; rw [decide_eq_true g2]; simp
        rw [e1] at ih
        refine And.intro hin ?_
        refine And.intro hin ?_
        show Ev _ _ _ _ _ _ _
        unfold uMid
        rw [e1]
        exact ih
      · have e1 : uNum t = true := by unfold uNum; rw [decide_eq_true g1, decide_eq_false g2]; rfl
        rw [e1] at ih
        refine And.intro hin ?_
        refine And.intro hin ?_
        show Ev _ _ _ _ _ _ _
        unfold uMid
        rw [e1]
        exact ih
set_option maxRecDepth 100000 in
set_option maxHeartbeats 1000000 in
theorem m_make {D : Nat} (hD : 1 ≤ D) {P : SP} {S : SS} {m : MS} {Q : xQ} (t l : Int32) (hT : vp_in (hTh S.1) 400) (hE : 0 ≤ (hEl S.1).toInt) (hl : l = -1 ∨ 0 ≤ l.toInt ∧ (hEl S.1).toInt + l.toInt ≤ 4000) (h : Q (some (.int (hTh S.1))) (wM P (uMk S.1 t l, S.2) m)) : Cd D 120 [.ref 0, .int t, .int l] (wM P S m) Q := by
  refine Cd.up hD ?_
  refine Cd.mk cdX8_make 4 4 2 [(0, .ref 0), (1, .int t), (2, .int l)] rfl rfl rfl rfl 0 ?_
  refine Ev.go (Cd.mono 0) [35] 100 ?_
  refine And.intro hT ?_
  refine And.intro hT ?_
  refine And.intro hT ?_
  rcases hl with hl | hl
  · subst hl
    show Ev _ _ _ _ _ _ _
    refine Ev.go (Cd.mono 0) [92] 100 ?_
    refine And.intro (fun _ => ?_) (fun h1 => absurd (by decide) h1)
    exact m_make_92 (d := 0) (Q := Q) (S := S) (m := m) t (-1) 0 h
  · have hN : l = nI (ix l) := nI_toI hl.1
    have hs : hEl S.1 = nI (ix (hEl S.1)) := nI_toI hE
    rw [hN] at h
    have := m_make_loop (d := 0) (Q := Q) t (ix l) (ix (hEl S.1)) hs (by rw [ix_eq, ix_eq]; omega) h (ix l) 0 (Nat.zero_add _)
    rw [← hN] at this
    exact this
/-! reads -/
set_option maxRecDepth 100000 in
set_option maxHeartbeats 1000000 in
theorem m_isArray {D : Nat} (hD : 1 ≤ D) {P : SP} {S : SS} {m : MS} {Q : xQ} (t : Int64) (ht : ¬ t < 0 → vp_in t.toInt32 400) (h : Q (some (.int (bI (!decide (t < 0) && !decide (hLe S.1 (ix t.toInt32) = -1))))) (wM P S m)) : Cd D 121 [.ref 0, .long t] (wM P S m) Q := by
  refine Cd.up hD ?_
  refine Cd.mk cdX8_isArray 3 4 1 [(0, .ref 0), (1, .long t)] rfl rfl rfl rfl 100 ?_
  refine And.intro (fun h1 => ?_) (fun h1 => ?_)
  · rw [lc_lt] at h1
    rw [decide_eq_true h1] at h
    refine And.intro (Or.inl rfl) ?_
    exact h
  · rw [lc_lt] at h1
    rw [decide_eq_false h1] at h
    refine And.intro (ht h1) ?_
    refine And.intro (fun h2 => ?_) (fun h2 => ?_)
    · rw [decide_eq_true h2] at h
      refine And.intro (Or.inl rfl) ?_
      exact h
    · rw [decide_eq_false h2] at h
      refine And.intro (Or.inr rfl) ?_
      exact h
set_option maxRecDepth 100000 in
set_option maxHeartbeats 1000000 in
theorem m_holdsRefs {D : Nat} (hD : 2 ≤ D) {P : SP} {S : SS} {m : MS} {Q : xQ} (t : Int64) (ht : vp_in t.toInt32 400) (h : Q (some (.int (bI (decide (8 ≤ hTy S.1 (ix t.toInt32) - 16))))) (wM P S m)) : Cd D 122 [.ref 0, .long t] (wM P S m) Q := by
  refine Cd.up hD ?_
  refine Cd.mk cdX8_holdsRefs 3 4 1 [(0, .ref 0), (1, .long t)] rfl rfl rfl rfl 100 ?_
  refine And.intro ht ?_
  refine m_isNumbers (by decide) _ ?_
  refine And.intro (fun h2 => ?_) (fun h2 => ?_)
  · rw [bI_ne0] at h2
    have h3 : decide (8 ≤ hTy S.1 (ix t.toInt32) - 16) = false := by
      cases hz : decide (8 ≤ hTy S.1 (ix t.toInt32) - 16)
      · rfl
      · have h2 : (!decide (8 ≤ hTy S.1 (ix t.toInt32) - 16)) = true := h2
        rw [hz] at h2; cases h2
    rw [h3] at h
    refine And.intro (Or.inl rfl) ?_
    exact h
  · rw [bI_eq0] at h2
    have h3 : decide (8 ≤ hTy S.1 (ix t.toInt32) - 16) = true := by
      cases hz : decide (8 ≤ hTy S.1 (ix t.toInt32) - 16)
      · have h2 : (!decide (8 ≤ hTy S.1 (ix t.toInt32) - 16)) = false := h2
        rw [hz] at h2; cases h2
      · rfl
    rw [h3] at h
    refine And.intro (Or.inr rfl) ?_
    exact h
set_option maxRecDepth 100000 in
set_option maxHeartbeats 1000000 in
theorem m_hasElement {D : Nat} (hD : 1 ≤ D) {P : SP} {S : SS} {m : MS} {Q : xQ} (t i : Int64) (ht : vp_in t.toInt32 400) (h : Q (some (.int (bI (!decide (i < 0) && decide (i < (hLe S.1 (ix t.toInt32)).toInt64))))) (wM P S m)) : Cd D 123 [.ref 0, .long t, .long i] (wM P S m) Q := by
  refine Cd.up hD ?_
  refine Cd.mk cdX8_hasElement 5 4 2 [(0, .ref 0), (1, .long t), (3, .long i)] rfl rfl rfl rfl 100 ?_
  refine And.intro (fun h1 => ?_) (fun h1 => ?_)
  · rw [lc_lt] at h1
    rw [decide_eq_true h1] at h
    refine And.intro (Or.inl rfl) ?_
    exact h
  · rw [lc_lt] at h1
    rw [decide_eq_false h1] at h
    refine And.intro ht ?_
    refine And.intro (fun h2 => ?_) (fun h2 => ?_)
    · rw [lc_ge] at h2
      rw [decide_eq_false h2] at h
      refine And.intro (Or.inl rfl) ?_
      exact h
    · rw [lc_ge] at h2
      rw [decide_eq_true (Classical.not_not.mp h2)] at h
      refine And.intro (Or.inr rfl) ?_
      exact h
set_option maxRecDepth 100000 in
set_option maxHeartbeats 1000000 in
theorem m_placeOf {D : Nat} (hD : 1 ≤ D) {P : SP} {S : SS} {m : MS} {Q : xQ} (t i : Int64) (ht : vp_in t.toInt32 400) (h : Q (some (.int (hSt S.1 (ix t.toInt32) + i.toInt32))) (wM P S m)) : Cd D 124 [.ref 0, .long t, .long i] (wM P S m) Q := by
  refine Cd.up hD ?_
  refine Cd.mk cdX8_placeOf 5 4 2 [(0, .ref 0), (1, .long t), (3, .long i)] rfl rfl rfl rfl 100 ?_
  refine And.intro ht ?_
  exact h
set_option maxRecDepth 100000 in
set_option maxHeartbeats 1000000 in
theorem m_lay {D : Nat} (hD : 1 ≤ D) {P : SP} {S : SS} {m : MS} {Q : xQ} (c : Int32) (r : UInt64) (hc : vp_in c 4000) (h : Q none (wM P (hPutRe S.1 c r, S.2) m)) : Cd D 126 [.ref 0, .int c, .double r] (wM P S m) Q := by
  refine Cd.up hD ?_
  refine Cd.mk cdX8_lay 4 4 2 [(0, .ref 0), (1, .int c), (2, .double r)] rfl rfl rfl rfl 100 ?_
  refine And.intro hc ?_
  refine And.intro hc ?_
  exact h
def mWNum (S : SS) (m : MS) (n : Int32) : SS := bif decide (mRef m = 0) then S else sFail S 9 n
set_option maxRecDepth 100000 in
set_option maxHeartbeats 1000000 in
theorem m_wantsNumber {D : Nat} (hD : 2 ≤ D) {P : SP} {S : SS} {m : MS} {Q : xQ} (n : Int32) (h : Q (some (.int (bI (decide (mRef m = 0))))) (wM P (mWNum S m n) m)) : Cd D 129 [.ref 0, .int n] (wM P S m) Q := by
  refine Cd.up hD ?_
  refine Cd.mk cdX8_wantsNumber 2 4 1 [(0, .ref 0), (1, .int n)] rfl rfl rfl rfl 100 ?_
  unfold mWNum at h
  refine And.intro (fun h1 => ?_) (fun h1 => ?_)
  · simp only [decide_eq_true h1, cond_true] at h
    refine And.intro (fun h2 => absurd h1 h2) (fun _ => ?_)
    refine And.intro (Or.inr rfl) ?_
    exact h
  · simp only [decide_eq_false h1, cond_false] at h
    refine m_fail (by decide) _ _ ?_
    refine And.intro (fun _ => ?_) (fun h2 => absurd h2 h1)
    refine And.intro (Or.inl rfl) ?_
    exact h
def uArr (S : SS) (m : MS) : Bool := !decide (mRef m = 0) && (decide (mCame m < 0) || !decide (hLe S.1 (ix (mCame m).toInt32) = -1))
set_option maxRecDepth 100000 in
set_option maxHeartbeats 1000000 in
theorem m_wantsArray {D : Nat} (hD : 2 ≤ D) {P : SP} {S : SS} {m : MS} {Q : xQ} (n : Int32) (ht : ¬ mRef m = 0 → ¬ mCame m < 0 → vp_in (mCame m).toInt32 400) (h : Q (some (.int (bI (uArr S m)))) (wM P (bif uArr S m then S else sFail S 9 n) m)) : Cd D 128 [.ref 0, .int n] (wM P S m) Q := by
  refine Cd.up hD ?_
  refine Cd.mk cdX8_wantsArray 2 4 1 [(0, .ref 0), (1, .int n)] rfl rfl rfl rfl 100 ?_
  unfold uArr at h
  refine And.intro (fun h1 => ?_) (fun h1 => ?_)
  · rw [decide_eq_true h1] at h
    refine m_fail (by decide) _ _ ?_
    refine And.intro (Or.inl rfl) ?_
    exact h
  · rw [decide_eq_false h1] at h
    refine And.intro (fun h2 => ?_) (fun h2 => ?_)
    · rw [lc_lt] at h2
      rw [decide_eq_true h2] at h
      refine And.intro (Or.inr rfl) ?_
      exact h
    · rw [lc_lt] at h2
      rw [decide_eq_false h2] at h
      refine m_isArray (by decide) _ (fun _ => ht h1 h2) ?_
      rw [decide_eq_false h2]
      refine And.intro (fun h3 => ?_) (fun h3 => ?_)
      · rw [bI_ne0] at h3
        have h4 : (!decide (hLe S.1 (ix (mCame m).toInt32) = -1)) = true := h3
        rw [h4] at h
        refine And.intro (Or.inr rfl) ?_
        exact h
      · rw [bI_eq0] at h3
        have h4 : (!decide (hLe S.1 (ix (mCame m).toInt32) = -1)) = false := h3
        rw [h4] at h
        refine m_fail (by decide) _ _ ?_
        refine And.intro (Or.inl rfl) ?_
        exact h
