/-! the reference's isSub: that of the class, for types -/
def uSub1 (s t : Int32) : Bool := decide (s = t) || (bif decide (t = 8) then !decide (s ≤ 7) else (!decide (16 ≤ s) && (!decide (16 ≤ t) && ((decide (s = 11) && (decide (t = 10) || decide (t = 9))) || (decide (s = 10) && decide (t = 9))))))
def uCut : Nat → Int32 → Int32 → Int32 × Int32
  | 0, s, t => (s, t)
  | n + 1, s, t => bif (decide (s ≤ 15) || decide (t ≤ 15)) then (s, t) else uCut n (s + -16) (t + -16)
set_option maxRecDepth 100000 in
set_option maxHeartbeats 1000000 in
theorem m_isSub_end {d : Nat} {w : xW} {Q : xQ} (a b s t : Int32) (h : Q (some (.int (bI (uSub1 s t)))) w) : Ev (Cd d) cdX8_isSub Q 25 [(0, .int a), (1, .int b), (2, .int s), (3, .int t)] [] w := by
  refine Ev.go (Cd.mono d) [80, 96] 100 ?_
  unfold uSub1 at h
  refine And.intro (fun h1 => ?_) (fun h1 => ?_)
  · rw [decide_eq_false h1, Bool.false_or] at h
    refine And.intro (fun h2 => ?_) (fun h2 => ?_)
    · rw [decide_eq_false h2] at h
      have h96 : ∀ h : Q (some (.int (bI false))) w, Ev (Cd d) cdX8_isSub Q 96 [(0, .int a), (1, .int b), (2, .int s), (3, .int t)] [] w := by
        intro h
        refine Ev.go (Cd.mono d) [] 100 ?_
        refine And.intro (Or.inl rfl) ?_
        exact h
      refine And.intro (fun h3 => ?_) (fun h3 => ?_)
      · rw [decide_eq_true h3] at h
        exact h96 h
      · rw [decide_eq_false h3] at h
        refine And.intro (fun h4 => ?_) (fun h4 => ?_)
        · rw [decide_eq_true h4] at h
          exact h96 h
        · rw [decide_eq_false h4] at h
          have h80 : ∀ h : Q (some (.int (bI (decide (s = 10) && decide (t = 9))))) w, Ev (Cd d) cdX8_isSub Q 80 [(0, .int a), (1, .int b), (2, .int s), (3, .int t)] [] w := by
            intro h
            refine Ev.go (Cd.mono d) [96] 100 ?_
            refine And.intro (fun g1 => ?_) (fun g1 => ?_)
            · rw [decide_eq_false g1] at h
              exact h96 h
            · rw [decide_eq_true g1] at h
              refine And.intro (fun g2 => ?_) (fun g2 => ?_)
              · rw [decide_eq_false g2] at h
                exact h96 h
              · rw [decide_eq_true g2] at h
                refine And.intro (Or.inr rfl) ?_
                exact h
          refine And.intro (fun h5 => ?_) (fun h5 => ?_)
          · rw [decide_eq_false h5] at h
            exact h80 h
          · rw [decide_eq_true h5] at h
            refine And.intro (fun h6 => ?_) (fun h6 => ?_)
            · rw [decide_eq_true h6] at h
              refine And.intro (Or.inr rfl) ?_
              exact h
            · rw [decide_eq_false h6] at h
              refine And.intro (fun h7 => ?_) (fun h7 => ?_)
              · rw [decide_eq_true h7] at h
                refine And.intro (Or.inr rfl) ?_
                exact h
              · rw [decide_eq_false h7] at h
                exact h80 (by rw [decide_eq_false h7]; exact h)
    · rw [decide_eq_true h2] at h
      refine And.intro (fun h3 => ?_) (fun h3 => ?_)
      · rw [decide_eq_true h3] at h
        refine And.intro (Or.inl rfl) ?_
        exact h
      · rw [decide_eq_false h3] at h
        refine And.intro (Or.inr rfl) ?_
        exact h
  · rw [decide_eq_true h1] at h
    refine And.intro (Or.inr rfl) ?_
    exact h
set_option maxRecDepth 100000 in
set_option maxHeartbeats 1000000 in
theorem m_isSub_loop {d : Nat} {w : xW} {Q : xQ} (a b : Int32) : ∀ (n : Nat) (s t : Int32), s.toInt < 16 * n + 16 → Q (some (.int (bI (uSub1 (uCut n s t).1 (uCut n s t).2)))) w → Ev (Cd d) cdX8_isSub Q 4 [(0, .int a), (1, .int b), (2, .int s), (3, .int t)] [] w
  | 0, s, t, hs, h => by
    refine Ev.go (Cd.mono d) [4, 25] 100 ?_
    refine And.intro (fun h1 => ?_) (fun h1 => ?_)
    · exact m_isSub_end a b s t h
    · have := i_not_le h1
      have e : (15 : Int32).toInt = 15 := rfl
      omega
  | n + 1, s, t, hs, h => by
    refine Ev.go (Cd.mono d) [4, 25] 100 ?_
    unfold uCut at h
    refine And.intro (fun h1 => ?_) (fun h1 => ?_)
    · rw [decide_eq_true h1] at h
      exact m_isSub_end a b s t h
    · rw [decide_eq_false h1, Bool.false_or] at h
      refine And.intro (fun h2 => ?_) (fun h2 => ?_)
      · rw [decide_eq_true h2] at h
        exact m_isSub_end a b s t h
      · rw [decide_eq_false h2] at h
        have g1 := i_not_le h1
        have e : (15 : Int32).toInt = 15 := rfl
        have e1 : (-16 : Int32).toInt = -16 := rfl
        have := (i_rng s).2
        refine m_isSub_loop a b n (s + -16) (t + -16) ?_ h
        rw [i_add (by omega) (by omega)]
        omega
theorem uSub_eq : ∀ s, s < 64 → ∀ t, t < 64 → uSub1 (uCut 3 (nI s) (nI t)).1 (uCut 3 (nI s) (nI t)).2 = tSub (nI s) (nI t) := by decide +kernel
set_option maxRecDepth 100000 in
set_option maxHeartbeats 1000000 in
theorem m_isSub {D : Nat} (hD : 1 ≤ D) {w : xW} {Q : xQ} (s t : Int32) (hs : 0 ≤ s.toInt ∧ s.toInt < 64) (ht : 0 ≤ t.toInt ∧ t.toInt < 64) (h : Q (some (.int (bI (tSub s t)))) w) : Cd D 99 [.int s, .int t] w Q := by
  refine Cd.up hD ?_
  refine Cd.mk cdX8_isSub 4 99 2 [(0, .int s), (1, .int t)] rfl rfl rfl rfl 0 ?_
  refine Ev.go (Cd.mono 0) [4] 100 ?_
  refine m_isSub_loop s t 3 s t (by omega) ?_
  have e := uSub_eq s.toInt.toNat (by omega) t.toInt.toNat (by omega)
  rw [← nI_toI hs.1, ← nI_toI ht.1] at e
  rw [e]
  exact h
theorem tIsType_rng {t : Int32} (h : tIsType t = true) : 0 ≤ t.toInt ∧ t.toInt < 64 := by
  simp only [tIsType, Bool.and_eq_true, Bool.not_eq_true', decide_eq_false_iff_not] at h
  have e : (64 : Int32).toInt = 64 := rfl
  have e0 : (0 : Int32).toInt = 0 := rfl
  have h1 := i_not_lt h.1
  have h2 := i_not_le h.2.1
  omega
set_option maxRecDepth 100000 in
set_option maxHeartbeats 1000000 in
theorem m_sub {D : Nat} (hD : 2 ≤ D) {P : SP} {S : SS} {m : MS} {Q : xQ} (s t : Int32) (h : Q (some (.int (tSubQ s t))) (wM P S m)) : Cd D 100 [.ref 0, .int s, .int t] (wM P S m) Q := by
  refine Cd.up hD ?_
  refine Cd.mk cdX8_sub 3 4 2 [(0, .ref 0), (1, .int s), (2, .int t)] rfl rfl rfl rfl 100 ?_
  unfold tSubQ at h
  refine m_isType (by decide) s ?_
  refine And.intro (fun h1 => ?_) (fun h1 => ?_)
  · rw [bI_eq0] at h1
    simp only [h1, Bool.false_and, cond_false] at h
    exact h
  · rw [bI_ne0] at h1
    refine m_isType (by decide) t ?_
    refine And.intro (fun h2 => ?_) (fun h2 => ?_)
    · rw [bI_ne0] at h2
      simp only [h1, h2, Bool.and_self, cond_true] at h
      refine m_isSub (by decide) s t (tIsType_rng h1) (tIsType_rng h2) ?_
      refine And.intro (fun h3 => ?_) (fun h3 => ?_)
      · rw [bI_eq0] at h3
        rw [h3] at h
        exact h
      · rw [bI_ne0] at h3
        rw [h3] at h
        exact h
    · rw [bI_eq0] at h2
      simp only [h1, h2, Bool.and_false, cond_false] at h
      exact h
/-! areSizes -/
set_option maxRecDepth 100000 in
set_option maxHeartbeats 1000000 in
theorem m_areSizes_74 {d : Nat} (hd : 2 ≤ d) {P : SP} {S : SS} {m : MS} {Q : xQ} (t b c e k : Int32) (g : Bool) (h : Q (some (.int (bI (g && (tIsArr t && !decide (t >>> ((4 : Int32) &&& 31) < k)))))) (wM P S m)) : Ev (Cd d) cdX8_areSizes Q 74 [(0, .ref 0), (1, .int t), (2, .int b), (3, .int c), (4, .int e), (5, .int k), (6, .int (bI g))] [] (wM P S m) := by
  refine Ev.go (Cd.mono d) [] 100 ?_
  refine And.intro (fun h1 => ?_) (fun h1 => ?_)
  · rw [bI_eq0] at h1
    rw [h1] at h
    refine And.intro (Or.inl rfl) ?_
    exact h
  · rw [bI_ne0] at h1
    rw [h1] at h
    refine m_isRows (by omega) t ?_
    refine And.intro (fun h2 => ?_) (fun h2 => ?_)
    · rw [bI_eq0] at h2
      rw [h2] at h
      refine And.intro (Or.inl rfl) ?_
      exact h
    · rw [bI_ne0] at h2
      rw [h2] at h
      refine And.intro (fun h3 => ?_) (fun h3 => ?_)
      · rw [decide_eq_true h3] at h
        refine And.intro (Or.inl rfl) ?_
        exact h
      · rw [decide_eq_false h3] at h
        refine And.intro (Or.inr rfl) ?_
        exact h
set_option maxRecDepth 100000 in
set_option maxHeartbeats 1000000 in
theorem m_areSizes_52 {d : Nat} (hd : 2 ≤ d) {P : SP} {S : SS} {m : MS} {Q : xQ} (hp : pOK P) (t b c e k : Int32) (h : Q (some (.int (bI ((decide (e = -1) || pIsNode P e) && (tIsArr t && !decide (t >>> ((4 : Int32) &&& 31) < k)))))) (wM P S m)) : Ev (Cd d) cdX8_areSizes Q 52 [(0, .ref 0), (1, .int t), (2, .int b), (3, .int c), (4, .int e), (5, .int k)] [] (wM P S m) := by
  refine Ev.go (Cd.mono d) [74] 100 ?_
  refine And.intro (fun h1 => ?_) (fun h1 => ?_)
  · rw [decide_eq_true h1, Bool.true_or] at h
    exact m_areSizes_74 hd t b c e k true h
  · rw [decide_eq_false h1, Bool.false_or] at h
    refine m_isNode (by omega) hp e ?_
    refine And.intro (fun h2 => ?_) (fun h2 => ?_)
    · rw [bI_eq0] at h2
      rw [h2] at h
      exact m_areSizes_74 hd t b c e k false h
    · rw [bI_ne0] at h2
      rw [h2] at h
      exact m_areSizes_74 hd t b c e k true h
set_option maxRecDepth 100000 in
set_option maxHeartbeats 1000000 in
theorem m_areSizes_22 {d : Nat} (hd : 2 ≤ d) {P : SP} {S : SS} {m : MS} {Q : xQ} (hp : pOK P) (t b c e k : Int32) (h : Q (some (.int (bI ((pIsNode P b && ((bif decide (c = -1) then decide (e = -1) else pIsNode P c) && (decide (e = -1) || pIsNode P e))) && (tIsArr t && !decide (t >>> ((4 : Int32) &&& 31) < k)))))) (wM P S m)) : Ev (Cd d) cdX8_areSizes Q 22 [(0, .ref 0), (1, .int t), (2, .int b), (3, .int c), (4, .int e), (5, .int k)] [] (wM P S m) := by
  refine Ev.go (Cd.mono d) [52, 74] 100 ?_
  refine m_isNode (by omega) hp b ?_
  refine And.intro (fun h1 => ?_) (fun h1 => ?_)
  · rw [bI_eq0] at h1
    rw [h1] at h
    exact m_areSizes_74 hd t b c e k false h
  · rw [bI_ne0] at h1
    rw [h1, Bool.true_and] at h
    refine And.intro (fun h2 => ?_) (fun h2 => ?_)
    · rw [decide_eq_false h2, cond_false] at h
      refine m_isNode (by omega) hp c ?_
      refine And.intro (fun h3 => ?_) (fun h3 => ?_)
      · rw [bI_eq0] at h3
        rw [h3] at h
        exact m_areSizes_74 hd t b c e k false h
      · rw [bI_ne0] at h3
        rw [h3, Bool.true_and] at h
        exact m_areSizes_52 hd hp t b c e k h
    · rw [decide_eq_true h2, cond_true] at h
      refine And.intro (fun h3 => ?_) (fun h3 => ?_)
      · rw [decide_eq_false h3] at h
        exact m_areSizes_74 hd t b c e k false h
      · rw [decide_eq_true h3, Bool.true_and] at h
        refine m_areSizes_52 hd hp t b c e k ?_
        rw [decide_eq_true h3]
        exact h
theorem tArr_k {t : Int32} (h : tIsArr t = true) : t >>> ((4 : Int32) &&& 31) = t / 16 ∧ 1 ≤ (t / 16).toInt ∧ (t / 16).toInt ≤ 3 := by
  unfold tIsArr at h
  have h1 := Bool.and_eq_true_iff.mp h
  have h2 := tIsType_rng h1.1
  have h3' : decide (t < 16) = false := by
    cases hz : decide (t < 16)
    · rfl
    · rw [hz] at h1; exact absurd h1.2 (by decide)
  have h3 := i_not_lt (of_decide_eq_false h3')
  have e : (16 : Int32).toInt = 16 := rfl
  have ht := nI_toI h2.1
  have hlt : t.toInt.toNat < 2 ^ 31 := by omega
  have e1 : nI t.toInt.toNat >>> ((4 : Int32) &&& 31) = nI (t.toInt.toNat / 2 ^ 4) := pk_shrN hlt _ 4 (by decide)
  have e2 : nI t.toInt.toNat / 16 = nI (t.toInt.toNat / 16) := pk_div hlt (by decide) (by decide)
  rw [← ht] at e1 e2
  refine ⟨by rw [e1, e2], ?_, ?_⟩
  · rw [e2, nI_toInt (by omega)]; omega
  · rw [e2, nI_toInt (by omega)]; omega
set_option maxRecDepth 100000 in
set_option maxHeartbeats 1000000 in
theorem m_areSizes {D : Nat} (hD : 3 ≤ D) {P : SP} {S : SS} {m : MS} {Q : xQ} (hp : pOK P) (t b c e : Int32) (h : Q (some (.int (bI (tIsArr t && pSizes P (t / 16) b c e)))) (wM P S m)) : Cd D 108 [.ref 0, .int t, .int b, .int c, .int e] (wM P S m) Q := by
  refine Cd.up hD ?_
  refine Cd.mk cdX8_areSizes 7 4 4 [(0, .ref 0), (1, .int t), (2, .int b), (3, .int c), (4, .int e)] rfl rfl rfl rfl 0 ?_
  refine Ev.go (Cd.mono 2) [22] 100 ?_
  unfold pSizes at h
  have one : (1 : Int32).toInt = 1 := rfl
  have two : (2 : Int32).toInt = 2 := rfl
  have three : (3 : Int32).toInt = 3 := rfl
  refine And.intro (fun h1 => ?_) (fun h1 => ?_)
  · rw [decide_eq_false h1] at h
    refine And.intro (fun h2 => ?_) (fun h2 => ?_)
    · rw [decide_eq_false h2] at h
      refine m_areSizes_22 (by decide) hp t b c e 3 ?_
      rw [decide_eq_false h1, decide_eq_false h2]
      cases ht : tIsArr t
      · rw [ht] at h
        simpa using h
      · obtain ⟨k1, k2, k3⟩ := tArr_k ht
        rw [ht] at h
        rw [k1]
        simp only [cond_false, Bool.false_or, Bool.true_and] at h ⊢
        by_cases hk : t / 16 < 3
        · have g1 : t / 16 ≤ 2 := Int32.le_iff_toInt_le.mpr (by have := i_lt hk; omega)
          rw [decide_eq_true g1] at h
          rw [decide_eq_true hk]
          simpa using h
        · have g1 : ¬ t / 16 ≤ 2 := fun z => hk (Int32.lt_iff_toInt_lt.mpr (by have := i_le z; omega))
          have g2 : ¬ t / 16 < 2 := fun z => hk (Int32.lt_iff_toInt_lt.mpr (by have := i_lt z; omega))
          rw [decide_eq_false g1, decide_eq_false g2] at h
          rw [decide_eq_false hk]
          simpa using h
    · rw [decide_eq_true h2] at h
      refine m_areSizes_22 (by decide) hp t b c e 2 ?_
      rw [decide_eq_false h1, decide_eq_true h2]
      cases ht : tIsArr t
      · rw [ht] at h
        simpa using h
      · obtain ⟨k1, k2, k3⟩ := tArr_k ht
        rw [ht] at h
        rw [k1]
        simp only [cond_false, Bool.true_or, Bool.true_and, Bool.and_true] at h ⊢
        by_cases hk : t / 16 < 2
        · rw [decide_eq_true hk] at h ⊢
          simpa using h
        · rw [decide_eq_false hk] at h ⊢
          simpa using h
  · rw [decide_eq_true h1] at h
    refine m_areSizes_22 (by decide) hp t b c e 1 ?_
    rw [decide_eq_true h1]
    cases ht : tIsArr t
    · rw [ht] at h
      simpa using h
    · obtain ⟨k1, k2, k3⟩ := tArr_k ht
      rw [ht] at h
      rw [k1]
      have hk : ¬ t / 16 < 1 := fun z => by have := i_lt z; omega
      rw [decide_eq_false hk]
      simp only [cond_true, Bool.true_and, Bool.not_false, Bool.and_true] at h ⊢
      cases he : decide (e = -1)
      · rw [he] at h
        simpa using h
      · rw [he] at h
        simpa using h
theorem tIsNum_8 {t : Int32} (h : tIsType t = true) : (!decide (8 ≤ t)) = tIsNum t := by
  have h1 := tIsType_rng h
  unfold tIsNum
  have e0 : (0 : Int32).toInt = 0 := rfl
  have e7 : (7 : Int32).toInt = 7 := rfl
  have e8 : (8 : Int32).toInt = 8 := rfl
  have g1 : ¬ t < 0 := fun z => by have := i_lt z; omega
  have g2 : (8 ≤ t) ↔ (7 < t) := by rw [Int32.le_iff_toInt_le, Int32.lt_iff_toInt_lt]; omega
  rw [decide_eq_false g1, decide_eq_decide.mpr g2]
  rfl
set_option maxRecDepth 100000 in
set_option maxHeartbeats 1000000 in
theorem m_may_26 {d : Nat} (hd : 4 ≤ d) {P : SP} {S : SS} {m : MS} {Q : xQ} (hw : pWF P) (code a b c e : Int32) (h : Q (some (.int (bI ((pIsNode P a && (pIsNode P b && pIsNode P c)) && decide (pLen P e = 2))))) (wM P S m)) : Ev (Cd d) cdX8_may Q 382 [(0, .ref 0), (1, .int code), (2, .int a), (3, .int b), (4, .int c), (5, .int e)] [] (wM P S m) := by
  have hp := hw.1
  refine Ev.go (Cd.mono d) [] 100 ?_
  refine m_isNode (by omega) hp a ?_
  refine And.intro (fun g0 => ?_) (fun g0 => ?_)
  · rw [bI_eq0] at g0
    simp only [g0, Bool.false_and] at h
    refine And.intro (Or.inl rfl) ?_
    exact h
  · rw [bI_ne0] at g0
    simp only [g0, Bool.true_and] at h
    refine m_isNode (by omega) hp b ?_
    refine And.intro (fun g1 => ?_) (fun g1 => ?_)
    · rw [bI_eq0] at g1
      simp only [g1, Bool.false_and] at h
      refine And.intro (Or.inl rfl) ?_
      exact h
    · rw [bI_ne0] at g1
      simp only [g1, Bool.true_and] at h
      refine m_isNode (by omega) hp c ?_
      refine And.intro (fun g2 => ?_) (fun g2 => ?_)
      · rw [bI_eq0] at g2
        simp only [g2, Bool.false_and] at h
        refine And.intro (Or.inl rfl) ?_
        exact h
      · rw [bI_ne0] at g2
        simp only [g2, Bool.true_and] at h
        refine m_isList (by omega) hp e ?_
        refine And.intro (fun g3 => ?_) (fun g3 => ?_)
        · rw [bI_eq0] at g3
          have g4 : ¬ pLen P e = 2 := by
            unfold pLen
            unfold pIsLN at g3
            have := (Bool.or_eq_false_iff.mp g3).2
            rw [this]
            show ¬ (0 : Int32) = 2
            decide
          rw [decide_eq_false g4] at h
          refine And.intro (Or.inl rfl) ?_
          exact h
        · rw [bI_ne0] at g3
          refine m_many (by omega) hw e g3 ?_
          refine And.intro (fun g4 => ?_) (fun g4 => ?_)
          · rw [decide_eq_false g4] at h
            refine And.intro (Or.inl rfl) ?_
            exact h
          · rw [decide_eq_true g4] at h
            refine And.intro (Or.inr rfl) ?_
            exact h
set_option maxRecDepth 100000 in
set_option maxHeartbeats 1000000 in
theorem m_may_432 {d : Nat} (hd : 4 ≤ d) {P : SP} {S : SS} {m : MS} {Q : xQ} (hp : pOK P) (code a b c e : Int32) (h : Q (some (.int (bI (lIn code.toInt64 6 23 && (pIsNode P a && pIsNode P b))))) (wM P S m)) : Ev (Cd d) cdX8_may Q 432 [(0, .ref 0), (1, .int code), (2, .int a), (3, .int b), (4, .int c), (5, .int e)] [] (wM P S m) := by
  refine Ev.go (Cd.mono d) [] 100 ?_
  refine m_in (by omega) _ _ _ ?_
  refine And.intro (fun g0 => ?_) (fun g0 => ?_)
  · rw [bI_eq0] at g0
    simp only [g0, Bool.false_and] at h
    refine And.intro (Or.inl rfl) ?_
    exact h
  · rw [bI_ne0] at g0
    simp only [g0, Bool.true_and] at h
    refine m_isNode (by omega) hp a ?_
    refine And.intro (fun g1 => ?_) (fun g1 => ?_)
    · rw [bI_eq0] at g1
      simp only [g1, Bool.false_and] at h
      refine And.intro (Or.inl rfl) ?_
      exact h
    · rw [bI_ne0] at g1
      simp only [g1, Bool.true_and] at h
      refine m_isNode (by omega) hp b ?_
      refine And.intro (fun g2 => ?_) (fun g2 => ?_)
      · rw [bI_eq0] at g2
        rw [g2] at h
        refine And.intro (Or.inl rfl) ?_
        exact h
      · rw [bI_ne0] at g2
        rw [g2] at h
        refine And.intro (Or.inr rfl) ?_
        exact h
theorem in623_out {c : Int32} (h : c.toInt < 0 ∨ 26 < c.toInt) : lIn c.toInt64 6 23 = false := by
  have e1 : lIn c.toInt64 (6 : Int32).toInt64 (23 : Int32).toInt64 = (!decide (c < 6) && !decide (23 < c)) := lIn_i
  have e6 : (6 : Int32).toInt = 6 := rfl
  have e23 : (23 : Int32).toInt = 23 := rfl
  have e2 : lIn c.toInt64 6 23 = (!decide (c < 6) && !decide (23 < c)) := e1
  rw [e2]
  rcases h with h | h
  · rw [decide_eq_true (Int32.lt_iff_toInt_lt.mpr (by omega))]; rfl
  · rw [decide_eq_true (p := 23 < c) (Int32.lt_iff_toInt_lt.mpr (by omega))]; simp
set_option maxRecDepth 100000 in
set_option maxHeartbeats 1000000 in
theorem m_may {D : Nat} (hD : 5 ≤ D) {P : SP} {S : SS} {m : MS} {Q : xQ} (hw : pWF P) (code a b c d : Int32) (h : Q (some (.int (bI (pFits P code a b c d)))) (wM P S m)) : Cd D 109 [.ref 0, .int code, .int a, .int b, .int c, .int d] (wM P S m) Q := by
  have hp := hw.1
  refine Cd.up hD ?_
  refine Cd.mk cdX8_may 6 4 5 [(0, .ref 0), (1, .int code), (2, .int a), (3, .int b), (4, .int c), (5, .int d)] rfl rfl rfl rfl 0 ?_
  refine Ev.go (Cd.mono 4) [382, 432] 100 ?_
  unfold pFits at h
  refine And.intro (fun hc0 => ?_) (fun hc0 => ?_)
  · simp only [decide_eq_true hc0, cond_true, cond_false] at h
    refine And.intro (Or.inr rfl) ?_
    exact h
  refine And.intro (fun hc1 => ?_) (fun hc1 => ?_)
  · simp only [decide_eq_false hc0, decide_eq_true hc1, cond_true, cond_false] at h
    refine And.intro (Or.inr rfl) ?_
    exact h
  refine And.intro (fun hc2 => ?_) (fun hc2 => ?_)
  · simp only [decide_eq_false hc0, decide_eq_false hc1, decide_eq_true hc2, cond_true, cond_false] at h
    refine m_isVariable (by decide) a ?_
    refine And.intro (bI01 _) ?_
    exact h
  refine And.intro (fun hc3 => ?_) (fun hc3 => ?_)
  · simp only [decide_eq_false hc0, decide_eq_false hc1, decide_eq_false hc2, decide_eq_true hc3, cond_true, cond_false] at h
    refine m_isVariable (by decide) a ?_
    refine And.intro (fun g0 => ?_) (fun g0 => ?_)
    · rw [bI_eq0] at g0
      simp only [g0, Bool.false_and] at h
      refine And.intro (Or.inl rfl) ?_
      exact h
    · rw [bI_ne0] at g0
      simp only [g0, Bool.true_and] at h
      refine m_isNode (by decide) hp b ?_
      refine And.intro (fun g1 => ?_) (fun g1 => ?_)
      · rw [bI_eq0] at g1
        rw [g1] at h
        refine And.intro (Or.inl rfl) ?_
        exact h
      · rw [bI_ne0] at g1
        rw [g1] at h
        refine And.intro (Or.inr rfl) ?_
        exact h
  refine And.intro (fun hc4 => ?_) (fun hc4 => ?_)
  · simp only [decide_eq_false hc0, decide_eq_false hc1, decide_eq_false hc2, decide_eq_false hc3, decide_eq_true hc4, cond_true, cond_false] at h
    refine m_isNode (by decide) hp b ?_
    refine And.intro (bI01 _) ?_
    exact h
  refine And.intro (fun hc5 => ?_) (fun hc5 => ?_)
  · simp only [decide_eq_false hc0, decide_eq_false hc1, decide_eq_false hc2, decide_eq_false hc3, decide_eq_false hc4, decide_eq_true hc5, cond_true, cond_false] at h
    refine And.intro (Or.inr rfl) ?_
    exact h
  refine And.intro (fun hc6 => ?_) (fun hc6 => ?_)
  · simp only [decide_eq_false hc0, decide_eq_false hc1, decide_eq_false hc2, decide_eq_false hc3, decide_eq_false hc4, decide_eq_false hc5, decide_eq_true hc6, cond_true, cond_false] at h
    refine m_may_432 (by decide) hp code a b c d ?_
    have e : lIn code.toInt64 6 23 = true := by rw [hc6]; decide
    rw [e, Bool.true_and]
    exact h
  refine And.intro (fun hc7 => ?_) (fun hc7 => ?_)
  · simp only [decide_eq_false hc0, decide_eq_false hc1, decide_eq_false hc2, decide_eq_false hc3, decide_eq_false hc4, decide_eq_false hc5, decide_eq_false hc6, decide_eq_true hc7, cond_true, cond_false] at h
    refine m_may_432 (by decide) hp code a b c d ?_
    have e : lIn code.toInt64 6 23 = true := by rw [hc7]; decide
    rw [e, Bool.true_and]
    exact h
  refine And.intro (fun hc8 => ?_) (fun hc8 => ?_)
  · simp only [decide_eq_false hc0, decide_eq_false hc1, decide_eq_false hc2, decide_eq_false hc3, decide_eq_false hc4, decide_eq_false hc5, decide_eq_false hc6, decide_eq_false hc7, decide_eq_true hc8, cond_true, cond_false] at h
    unfold pFitsT at h
    simp only [dne hc8 (show (8 : Int32) ≠ 9 by decide), dne hc8 (show (8 : Int32) ≠ 10 by decide), dne hc8 (show (8 : Int32) ≠ 11 by decide), dne hc8 (show (8 : Int32) ≠ 12 by decide), dne hc8 (show (8 : Int32) ≠ 13 by decide), dne hc8 (show (8 : Int32) ≠ 14 by decide), dne hc8 (show (8 : Int32) ≠ 15 by decide), dne hc8 (show (8 : Int32) ≠ 16 by decide), dne hc8 (show (8 : Int32) ≠ 17 by decide), dne hc8 (show (8 : Int32) ≠ 18 by decide), dne hc8 (show (8 : Int32) ≠ 19 by decide), dne hc8 (show (8 : Int32) ≠ 20 by decide), dne hc8 (show (8 : Int32) ≠ 21 by decide), dne hc8 (show (8 : Int32) ≠ 22 by decide), decide_eq_true hc8, cond_true, cond_false] at h
    unfold tIsInst at h
    refine And.intro (fun g0 => ?_) (fun g0 => ?_)
    · rw [decide_eq_true g0, Bool.true_or] at h
      refine And.intro (Or.inr rfl) ?_
      exact h
    · rw [decide_eq_false g0, Bool.false_or] at h
      refine And.intro (fun g1 => ?_) (fun g1 => ?_)
      · rw [decide_eq_true g1, Bool.true_or] at h
        refine And.intro (Or.inr rfl) ?_
        exact h
      · rw [decide_eq_false g1, Bool.false_or] at h
        refine And.intro (fun g2 => ?_) (fun g2 => ?_)
        · rw [decide_eq_false g2] at h
          refine And.intro (Or.inl rfl) ?_
          exact h
        · rw [decide_eq_true g2] at h
          refine And.intro (Or.inr rfl) ?_
          exact h
  refine And.intro (fun hc9 => ?_) (fun hc9 => ?_)
  · simp only [decide_eq_false hc0, decide_eq_false hc1, decide_eq_false hc2, decide_eq_false hc3, decide_eq_false hc4, decide_eq_false hc5, decide_eq_false hc6, decide_eq_false hc7, decide_eq_false hc8, decide_eq_true hc9, cond_true, cond_false] at h
    unfold pFitsT at h
    simp only [dne hc9 (show (9 : Int32) ≠ 8 by decide), dne hc9 (show (9 : Int32) ≠ 10 by decide), dne hc9 (show (9 : Int32) ≠ 11 by decide), dne hc9 (show (9 : Int32) ≠ 12 by decide), dne hc9 (show (9 : Int32) ≠ 13 by decide), dne hc9 (show (9 : Int32) ≠ 14 by decide), dne hc9 (show (9 : Int32) ≠ 15 by decide), dne hc9 (show (9 : Int32) ≠ 16 by decide), dne hc9 (show (9 : Int32) ≠ 17 by decide), dne hc9 (show (9 : Int32) ≠ 18 by decide), dne hc9 (show (9 : Int32) ≠ 19 by decide), dne hc9 (show (9 : Int32) ≠ 20 by decide), dne hc9 (show (9 : Int32) ≠ 21 by decide), dne hc9 (show (9 : Int32) ≠ 22 by decide), decide_eq_true hc9, cond_true, cond_false] at h
    refine m_areSizes (by decide) hp _ _ _ _ ?_
    refine And.intro (bI01 _) ?_
    exact h
  refine And.intro (fun hc10 => ?_) (fun hc10 => ?_)
  · simp only [decide_eq_false hc0, decide_eq_false hc1, decide_eq_false hc2, decide_eq_false hc3, decide_eq_false hc4, decide_eq_false hc5, decide_eq_false hc6, decide_eq_false hc7, decide_eq_false hc8, decide_eq_false hc9, decide_eq_true hc10, cond_true, cond_false] at h
    refine m_isList (by decide) hp a ?_
    refine And.intro (fun g0 => ?_) (fun g0 => ?_)
    · rw [bI_eq0] at g0
      simp only [g0, Bool.false_and] at h
      refine And.intro (Or.inl rfl) ?_
      exact h
    · rw [bI_ne0] at g0
      simp only [g0, Bool.true_and] at h
      refine m_isNode (by decide) hp b ?_
      refine And.intro (fun g1 => ?_) (fun g1 => ?_)
      · rw [bI_eq0] at g1
        rw [g1] at h
        refine And.intro (Or.inl rfl) ?_
        exact h
      · rw [bI_ne0] at g1
        rw [g1] at h
        refine And.intro (Or.inr rfl) ?_
        exact h
  refine And.intro (fun hc11 => ?_) (fun hc11 => ?_)
  · simp only [decide_eq_false hc0, decide_eq_false hc1, decide_eq_false hc2, decide_eq_false hc3, decide_eq_false hc4, decide_eq_false hc5, decide_eq_false hc6, decide_eq_false hc7, decide_eq_false hc8, decide_eq_false hc9, decide_eq_false hc10, decide_eq_true hc11, cond_true, cond_false] at h
    unfold pFitsT at h
    simp only [dne hc11 (show (11 : Int32) ≠ 8 by decide), dne hc11 (show (11 : Int32) ≠ 9 by decide), dne hc11 (show (11 : Int32) ≠ 10 by decide), dne hc11 (show (11 : Int32) ≠ 12 by decide), dne hc11 (show (11 : Int32) ≠ 13 by decide), dne hc11 (show (11 : Int32) ≠ 14 by decide), dne hc11 (show (11 : Int32) ≠ 15 by decide), dne hc11 (show (11 : Int32) ≠ 16 by decide), dne hc11 (show (11 : Int32) ≠ 17 by decide), dne hc11 (show (11 : Int32) ≠ 18 by decide), dne hc11 (show (11 : Int32) ≠ 19 by decide), dne hc11 (show (11 : Int32) ≠ 20 by decide), dne hc11 (show (11 : Int32) ≠ 21 by decide), dne hc11 (show (11 : Int32) ≠ 22 by decide), decide_eq_true hc11, cond_true, cond_false] at h
    refine m_isRows (by decide) a ?_
    refine And.intro (fun g0 => ?_) (fun g0 => ?_)
    · rw [bI_eq0] at g0
      simp only [g0, Bool.false_and] at h
      refine And.intro (Or.inl rfl) ?_
      exact h
    · rw [bI_ne0] at g0
      simp only [g0, Bool.true_and] at h
      refine m_isList (by decide) hp b ?_
      refine And.intro (fun g1 => ?_) (fun g1 => ?_)
      · rw [bI_eq0] at g1
        rw [g1] at h
        refine And.intro (Or.inl rfl) ?_
        exact h
      · rw [bI_ne0] at g1
        rw [g1] at h
        refine And.intro (Or.inr rfl) ?_
        exact h
  refine And.intro (fun hc12 => ?_) (fun hc12 => ?_)
  · simp only [decide_eq_false hc0, decide_eq_false hc1, decide_eq_false hc2, decide_eq_false hc3, decide_eq_false hc4, decide_eq_false hc5, decide_eq_false hc6, decide_eq_false hc7, decide_eq_false hc8, decide_eq_false hc9, decide_eq_false hc10, decide_eq_false hc11, decide_eq_true hc12, cond_true, cond_false] at h
    refine m_isNode (by decide) hp a ?_
    refine And.intro (bI01 _) ?_
    exact h
  refine And.intro (fun hc13 => ?_) (fun hc13 => ?_)
  · simp only [decide_eq_false hc0, decide_eq_false hc1, decide_eq_false hc2, decide_eq_false hc3, decide_eq_false hc4, decide_eq_false hc5, decide_eq_false hc6, decide_eq_false hc7, decide_eq_false hc8, decide_eq_false hc9, decide_eq_false hc10, decide_eq_false hc11, decide_eq_false hc12, decide_eq_true hc13, cond_true, cond_false] at h
    refine m_may_432 (by decide) hp code a b c d ?_
    have e : lIn code.toInt64 6 23 = true := by rw [hc13]; decide
    rw [e, Bool.true_and]
    exact h
  refine And.intro (fun hc14 => ?_) (fun hc14 => ?_)
  · simp only [decide_eq_false hc0, decide_eq_false hc1, decide_eq_false hc2, decide_eq_false hc3, decide_eq_false hc4, decide_eq_false hc5, decide_eq_false hc6, decide_eq_false hc7, decide_eq_false hc8, decide_eq_false hc9, decide_eq_false hc10, decide_eq_false hc11, decide_eq_false hc12, decide_eq_false hc13, decide_eq_true hc14, cond_true, cond_false] at h
    refine m_isNode (by decide) hp a ?_
    refine And.intro (fun g0 => ?_) (fun g0 => ?_)
    · rw [bI_eq0] at g0
      simp only [g0, Bool.false_and] at h
      refine And.intro (Or.inl rfl) ?_
      exact h
    · rw [bI_ne0] at g0
      simp only [g0, Bool.true_and] at h
      refine m_isNode (by decide) hp b ?_
      refine And.intro (fun g1 => ?_) (fun g1 => ?_)
      · rw [bI_eq0] at g1
        simp only [g1, Bool.false_and] at h
        refine And.intro (Or.inl rfl) ?_
        exact h
      · rw [bI_ne0] at g1
        simp only [g1, Bool.true_and] at h
        refine m_isNode (by decide) hp c ?_
        refine And.intro (fun g2 => ?_) (fun g2 => ?_)
        · rw [bI_eq0] at g2
          rw [g2] at h
          refine And.intro (Or.inl rfl) ?_
          exact h
        · rw [bI_ne0] at g2
          rw [g2] at h
          refine And.intro (Or.inr rfl) ?_
          exact h
  refine And.intro (fun hc15 => ?_) (fun hc15 => ?_)
  · simp only [decide_eq_false hc0, decide_eq_false hc1, decide_eq_false hc2, decide_eq_false hc3, decide_eq_false hc4, decide_eq_false hc5, decide_eq_false hc6, decide_eq_false hc7, decide_eq_false hc8, decide_eq_false hc9, decide_eq_false hc10, decide_eq_false hc11, decide_eq_false hc12, decide_eq_false hc13, decide_eq_false hc14, decide_eq_true hc15, cond_true, cond_false] at h
    refine m_isNode (by decide) hp a ?_
    refine And.intro (fun g0 => ?_) (fun g0 => ?_)
    · rw [bI_eq0] at g0
      simp only [g0, Bool.false_and] at h
      refine And.intro (Or.inl rfl) ?_
      exact h
    · rw [bI_ne0] at g0
      simp only [g0, Bool.true_and] at h
      refine m_isNode (by decide) hp b ?_
      refine And.intro (fun g1 => ?_) (fun g1 => ?_)
      · rw [bI_eq0] at g1
        simp only [g1, Bool.false_and] at h
        refine And.intro (Or.inl rfl) ?_
        exact h
      · rw [bI_ne0] at g1
        simp only [g1, Bool.true_and] at h
        refine m_isNode (by decide) hp c ?_
        refine And.intro (fun g2 => ?_) (fun g2 => ?_)
        · rw [bI_eq0] at g2
          rw [g2] at h
          refine And.intro (Or.inl rfl) ?_
          exact h
        · rw [bI_ne0] at g2
          rw [g2] at h
          refine And.intro (Or.inr rfl) ?_
          exact h
  refine And.intro (fun hc16 => ?_) (fun hc16 => ?_)
  · simp only [decide_eq_false hc0, decide_eq_false hc1, decide_eq_false hc2, decide_eq_false hc3, decide_eq_false hc4, decide_eq_false hc5, decide_eq_false hc6, decide_eq_false hc7, decide_eq_false hc8, decide_eq_false hc9, decide_eq_false hc10, decide_eq_false hc11, decide_eq_false hc12, decide_eq_false hc13, decide_eq_false hc14, decide_eq_false hc15, decide_eq_true hc16, cond_true, cond_false] at h
    refine m_may_432 (by decide) hp code a b c d ?_
    have e : lIn code.toInt64 6 23 = true := by rw [hc16]; decide
    rw [e, Bool.true_and]
    exact h
  refine And.intro (fun hc17 => ?_) (fun hc17 => ?_)
  · simp only [decide_eq_false hc0, decide_eq_false hc1, decide_eq_false hc2, decide_eq_false hc3, decide_eq_false hc4, decide_eq_false hc5, decide_eq_false hc6, decide_eq_false hc7, decide_eq_false hc8, decide_eq_false hc9, decide_eq_false hc10, decide_eq_false hc11, decide_eq_false hc12, decide_eq_false hc13, decide_eq_false hc14, decide_eq_false hc15, decide_eq_false hc16, decide_eq_true hc17, cond_true, cond_false] at h
    refine m_isNode (by decide) hp a ?_
    refine And.intro (bI01 _) ?_
    exact h
  refine And.intro (fun hc18 => ?_) (fun hc18 => ?_)
  · simp only [decide_eq_false hc0, decide_eq_false hc1, decide_eq_false hc2, decide_eq_false hc3, decide_eq_false hc4, decide_eq_false hc5, decide_eq_false hc6, decide_eq_false hc7, decide_eq_false hc8, decide_eq_false hc9, decide_eq_false hc10, decide_eq_false hc11, decide_eq_false hc12, decide_eq_false hc13, decide_eq_false hc14, decide_eq_false hc15, decide_eq_false hc16, decide_eq_false hc17, decide_eq_true hc18, cond_true, cond_false] at h
    unfold pFitsT at h
    simp only [dne hc18 (show (18 : Int32) ≠ 8 by decide), dne hc18 (show (18 : Int32) ≠ 9 by decide), dne hc18 (show (18 : Int32) ≠ 10 by decide), dne hc18 (show (18 : Int32) ≠ 11 by decide), dne hc18 (show (18 : Int32) ≠ 12 by decide), dne hc18 (show (18 : Int32) ≠ 13 by decide), dne hc18 (show (18 : Int32) ≠ 14 by decide), dne hc18 (show (18 : Int32) ≠ 15 by decide), dne hc18 (show (18 : Int32) ≠ 16 by decide), dne hc18 (show (18 : Int32) ≠ 17 by decide), dne hc18 (show (18 : Int32) ≠ 19 by decide), dne hc18 (show (18 : Int32) ≠ 20 by decide), dne hc18 (show (18 : Int32) ≠ 21 by decide), dne hc18 (show (18 : Int32) ≠ 22 by decide), decide_eq_true hc18, cond_true, cond_false] at h
    refine m_isType (by decide) a ?_
    refine And.intro (fun g0 => ?_) (fun g0 => ?_)
    · rw [bI_eq0] at g0
      simp only [g0, Bool.false_and] at h
      refine And.intro (Or.inl rfl) ?_
      exact h
    · rw [bI_ne0] at g0
      simp only [g0, Bool.true_and] at h
      refine m_isNode (by decide) hp b ?_
      refine And.intro (fun g1 => ?_) (fun g1 => ?_)
      · rw [bI_eq0] at g1
        rw [g1] at h
        refine And.intro (Or.inl rfl) ?_
        exact h
      · rw [bI_ne0] at g1
        rw [g1] at h
        refine And.intro (Or.inr rfl) ?_
        exact h
  refine And.intro (fun hc19 => ?_) (fun hc19 => ?_)
  · simp only [decide_eq_false hc0, decide_eq_false hc1, decide_eq_false hc2, decide_eq_false hc3, decide_eq_false hc4, decide_eq_false hc5, decide_eq_false hc6, decide_eq_false hc7, decide_eq_false hc8, decide_eq_false hc9, decide_eq_false hc10, decide_eq_false hc11, decide_eq_false hc12, decide_eq_false hc13, decide_eq_false hc14, decide_eq_false hc15, decide_eq_false hc16, decide_eq_false hc17, decide_eq_false hc18, decide_eq_true hc19, cond_true, cond_false] at h
    unfold pFitsT at h
    simp only [dne hc19 (show (19 : Int32) ≠ 8 by decide), dne hc19 (show (19 : Int32) ≠ 9 by decide), dne hc19 (show (19 : Int32) ≠ 10 by decide), dne hc19 (show (19 : Int32) ≠ 11 by decide), dne hc19 (show (19 : Int32) ≠ 12 by decide), dne hc19 (show (19 : Int32) ≠ 13 by decide), dne hc19 (show (19 : Int32) ≠ 14 by decide), dne hc19 (show (19 : Int32) ≠ 15 by decide), dne hc19 (show (19 : Int32) ≠ 16 by decide), dne hc19 (show (19 : Int32) ≠ 17 by decide), dne hc19 (show (19 : Int32) ≠ 18 by decide), dne hc19 (show (19 : Int32) ≠ 20 by decide), dne hc19 (show (19 : Int32) ≠ 21 by decide), dne hc19 (show (19 : Int32) ≠ 22 by decide), decide_eq_true hc19, cond_true, cond_false] at h
    refine m_isType (by decide) a ?_
    refine And.intro (fun g0 => ?_) (fun g0 => ?_)
    · rw [bI_eq0] at g0
      simp only [g0, Bool.false_and] at h
      refine And.intro (Or.inl rfl) ?_
      exact h
    · rw [bI_ne0] at g0
      simp only [g0, Bool.true_and] at h
      have e := tIsNum_8 g0
      refine m_isNumbers (by decide) a ?_
      rw [e]
      refine And.intro (fun g1 => ?_) (fun g1 => ?_)
      · rw [bI_ne0] at g1
        simp only [g1, Bool.not_true, Bool.false_and] at h
        refine And.intro (Or.inl rfl) ?_
        exact h
      · rw [bI_eq0] at g1
        simp only [g1, Bool.not_false, Bool.true_and] at h
        refine m_isNode (by decide) hp b ?_
        refine And.intro (fun g2 => ?_) (fun g2 => ?_)
        · rw [bI_eq0] at g2
          rw [g2] at h
          refine And.intro (Or.inl rfl) ?_
          exact h
        · rw [bI_ne0] at g2
          rw [g2] at h
          refine And.intro (Or.inr rfl) ?_
          exact h
  refine And.intro (fun hc20 => ?_) (fun hc20 => ?_)
  · simp only [decide_eq_false hc0, decide_eq_false hc1, decide_eq_false hc2, decide_eq_false hc3, decide_eq_false hc4, decide_eq_false hc5, decide_eq_false hc6, decide_eq_false hc7, decide_eq_false hc8, decide_eq_false hc9, decide_eq_false hc10, decide_eq_false hc11, decide_eq_false hc12, decide_eq_false hc13, decide_eq_false hc14, decide_eq_false hc15, decide_eq_false hc16, decide_eq_false hc17, decide_eq_false hc18, decide_eq_false hc19, decide_eq_true hc20, cond_true, cond_false] at h
    refine m_may_432 (by decide) hp code a b c d ?_
    have e : lIn code.toInt64 6 23 = true := by rw [hc20]; decide
    rw [e, Bool.true_and]
    exact h
  refine And.intro (fun hc21 => ?_) (fun hc21 => ?_)
  · simp only [decide_eq_false hc0, decide_eq_false hc1, decide_eq_false hc2, decide_eq_false hc3, decide_eq_false hc4, decide_eq_false hc5, decide_eq_false hc6, decide_eq_false hc7, decide_eq_false hc8, decide_eq_false hc9, decide_eq_false hc10, decide_eq_false hc11, decide_eq_false hc12, decide_eq_false hc13, decide_eq_false hc14, decide_eq_false hc15, decide_eq_false hc16, decide_eq_false hc17, decide_eq_false hc18, decide_eq_false hc19, decide_eq_false hc20, decide_eq_true hc21, cond_true, cond_false] at h
    refine m_isNode (by decide) hp a ?_
    refine And.intro (fun g0 => ?_) (fun g0 => ?_)
    · rw [bI_eq0] at g0
      simp only [g0, Bool.false_and] at h
      refine And.intro (Or.inl rfl) ?_
      exact h
    · rw [bI_ne0] at g0
      simp only [g0, Bool.true_and] at h
      refine m_isVariable (by decide) b ?_
      refine And.intro (fun g1 => ?_) (fun g1 => ?_)
      · rw [bI_eq0] at g1
        simp only [g1, Bool.false_and] at h
        refine And.intro (Or.inl rfl) ?_
        exact h
      · rw [bI_ne0] at g1
        simp only [g1, Bool.true_and] at h
        refine m_isNode (by decide) hp c ?_
        refine And.intro (fun g2 => ?_) (fun g2 => ?_)
        · rw [bI_eq0] at g2
          rw [g2] at h
          refine And.intro (Or.inl rfl) ?_
          exact h
        · rw [bI_ne0] at g2
          rw [g2] at h
          refine And.intro (Or.inr rfl) ?_
          exact h
  refine And.intro (fun hc22 => ?_) (fun hc22 => ?_)
  · simp only [decide_eq_false hc0, decide_eq_false hc1, decide_eq_false hc2, decide_eq_false hc3, decide_eq_false hc4, decide_eq_false hc5, decide_eq_false hc6, decide_eq_false hc7, decide_eq_false hc8, decide_eq_false hc9, decide_eq_false hc10, decide_eq_false hc11, decide_eq_false hc12, decide_eq_false hc13, decide_eq_false hc14, decide_eq_false hc15, decide_eq_false hc16, decide_eq_false hc17, decide_eq_false hc18, decide_eq_false hc19, decide_eq_false hc20, decide_eq_false hc21, decide_eq_true hc22, cond_true, cond_false] at h
    unfold pFitsT at h
    simp only [dne hc22 (show (22 : Int32) ≠ 8 by decide), dne hc22 (show (22 : Int32) ≠ 9 by decide), dne hc22 (show (22 : Int32) ≠ 10 by decide), dne hc22 (show (22 : Int32) ≠ 11 by decide), dne hc22 (show (22 : Int32) ≠ 12 by decide), dne hc22 (show (22 : Int32) ≠ 13 by decide), dne hc22 (show (22 : Int32) ≠ 14 by decide), dne hc22 (show (22 : Int32) ≠ 15 by decide), dne hc22 (show (22 : Int32) ≠ 16 by decide), dne hc22 (show (22 : Int32) ≠ 17 by decide), dne hc22 (show (22 : Int32) ≠ 18 by decide), dne hc22 (show (22 : Int32) ≠ 19 by decide), dne hc22 (show (22 : Int32) ≠ 20 by decide), dne hc22 (show (22 : Int32) ≠ 21 by decide), decide_eq_true hc22, cond_true, cond_false] at h
    refine m_isRows (by decide) a ?_
    refine And.intro (fun g0 => ?_) (fun g0 => ?_)
    · rw [bI_eq0] at g0
      simp only [g0, Bool.false_and] at h
      refine And.intro (Or.inl rfl) ?_
      exact h
    · rw [bI_ne0] at g0
      simp only [g0, Bool.true_and] at h
      refine m_isList (by decide) hp b ?_
      refine And.intro (fun g1 => ?_) (fun g1 => ?_)
      · rw [bI_eq0] at g1
        rw [g1] at h
        refine And.intro (Or.inl rfl) ?_
        exact h
      · rw [bI_ne0] at g1
        rw [g1] at h
        refine And.intro (Or.inr rfl) ?_
        exact h
  refine And.intro (fun hc23 => ?_) (fun hc23 => ?_)
  · simp only [decide_eq_false hc0, decide_eq_false hc1, decide_eq_false hc2, decide_eq_false hc3, decide_eq_false hc4, decide_eq_false hc5, decide_eq_false hc6, decide_eq_false hc7, decide_eq_false hc8, decide_eq_false hc9, decide_eq_false hc10, decide_eq_false hc11, decide_eq_false hc12, decide_eq_false hc13, decide_eq_false hc14, decide_eq_false hc15, decide_eq_false hc16, decide_eq_false hc17, decide_eq_false hc18, decide_eq_false hc19, decide_eq_false hc20, decide_eq_false hc21, decide_eq_false hc22, decide_eq_true hc23, cond_true, cond_false] at h
    refine m_may_432 (by decide) hp code a b c d ?_
    have e : lIn code.toInt64 6 23 = true := by rw [hc23]; decide
    rw [e, Bool.true_and]
    exact h
  refine And.intro (fun hc24 => ?_) (fun hc24 => ?_)
  · simp only [decide_eq_false hc0, decide_eq_false hc1, decide_eq_false hc2, decide_eq_false hc3, decide_eq_false hc4, decide_eq_false hc5, decide_eq_false hc6, decide_eq_false hc7, decide_eq_false hc8, decide_eq_false hc9, decide_eq_false hc10, decide_eq_false hc11, decide_eq_false hc12, decide_eq_false hc13, decide_eq_false hc14, decide_eq_false hc15, decide_eq_false hc16, decide_eq_false hc17, decide_eq_false hc18, decide_eq_false hc19, decide_eq_false hc20, decide_eq_false hc21, decide_eq_false hc22, decide_eq_false hc23, decide_eq_true hc24, cond_true, cond_false] at h
    refine m_isNode (by decide) hp a ?_
    refine And.intro (fun g0 => ?_) (fun g0 => ?_)
    · rw [bI_eq0] at g0
      simp only [g0, Bool.false_and] at h
      refine And.intro (Or.inl rfl) ?_
      exact h
    · rw [bI_ne0] at g0
      simp only [g0, Bool.true_and] at h
      refine m_isNode (by decide) hp b ?_
      refine And.intro (fun g1 => ?_) (fun g1 => ?_)
      · rw [bI_eq0] at g1
        simp only [g1, Bool.false_and] at h
        refine And.intro (Or.inl rfl) ?_
        exact h
      · rw [bI_ne0] at g1
        simp only [g1, Bool.true_and] at h
        refine m_isNode (by decide) hp c ?_
        refine And.intro (fun g2 => ?_) (fun g2 => ?_)
        · rw [bI_eq0] at g2
          rw [g2] at h
          refine And.intro (Or.inl rfl) ?_
          exact h
        · rw [bI_ne0] at g2
          rw [g2] at h
          refine And.intro (Or.inr rfl) ?_
          exact h
  refine And.intro (fun hc25 => ?_) (fun hc25 => ?_)
  · simp only [decide_eq_false hc0, decide_eq_false hc1, decide_eq_false hc2, decide_eq_false hc3, decide_eq_false hc4, decide_eq_false hc5, decide_eq_false hc6, decide_eq_false hc7, decide_eq_false hc8, decide_eq_false hc9, decide_eq_false hc10, decide_eq_false hc11, decide_eq_false hc12, decide_eq_false hc13, decide_eq_false hc14, decide_eq_false hc15, decide_eq_false hc16, decide_eq_false hc17, decide_eq_false hc18, decide_eq_false hc19, decide_eq_false hc20, decide_eq_false hc21, decide_eq_false hc22, decide_eq_false hc23, decide_eq_false hc24, decide_eq_true hc25, cond_true, cond_false] at h
    refine m_isNode (by decide) hp a ?_
    refine And.intro (fun g0 => ?_) (fun g0 => ?_)
    · rw [bI_eq0] at g0
      simp only [g0, Bool.false_and] at h
      refine And.intro (Or.inl rfl) ?_
      exact h
    · rw [bI_ne0] at g0
      simp only [g0, Bool.true_and] at h
      refine m_isNode (by decide) hp b ?_
      refine And.intro (fun g1 => ?_) (fun g1 => ?_)
      · rw [bI_eq0] at g1
        simp only [g1, Bool.false_and] at h
        refine And.intro (Or.inl rfl) ?_
        exact h
      · rw [bI_ne0] at g1
        simp only [g1, Bool.true_and] at h
        refine m_isVariable (by decide) c ?_
        refine And.intro (fun g2 => ?_) (fun g2 => ?_)
        · rw [bI_eq0] at g2
          rw [g2] at h
          refine And.intro (Or.inl rfl) ?_
          exact h
        · rw [bI_ne0] at g2
          rw [g2] at h
          refine And.intro (Or.inr rfl) ?_
          exact h
  refine And.intro (fun hc26 => ?_) (fun hc26 => ?_)
  · simp only [decide_eq_false hc0, decide_eq_false hc1, decide_eq_false hc2, decide_eq_false hc3, decide_eq_false hc4, decide_eq_false hc5, decide_eq_false hc6, decide_eq_false hc7, decide_eq_false hc8, decide_eq_false hc9, decide_eq_false hc10, decide_eq_false hc11, decide_eq_false hc12, decide_eq_false hc13, decide_eq_false hc14, decide_eq_false hc15, decide_eq_false hc16, decide_eq_false hc17, decide_eq_false hc18, decide_eq_false hc19, decide_eq_false hc20, decide_eq_false hc21, decide_eq_false hc22, decide_eq_false hc23, decide_eq_false hc24, decide_eq_false hc25, decide_eq_true hc26, cond_true, cond_false] at h
    exact m_may_26 (by decide) hw code a b c d h
  simp only [decide_eq_false hc0, decide_eq_false hc1, decide_eq_false hc2, decide_eq_false hc3, decide_eq_false hc4, decide_eq_false hc5, decide_eq_false hc6, decide_eq_false hc7, decide_eq_false hc8, decide_eq_false hc9, decide_eq_false hc10, decide_eq_false hc11, decide_eq_false hc12, decide_eq_false hc13, decide_eq_false hc14, decide_eq_false hc15, decide_eq_false hc16, decide_eq_false hc17, decide_eq_false hc18, decide_eq_false hc19, decide_eq_false hc20, decide_eq_false hc21, decide_eq_false hc22, decide_eq_false hc23, decide_eq_false hc24, decide_eq_false hc25, decide_eq_false hc26, cond_true, cond_false] at h
  unfold pFitsT at h
  simp only [decide_eq_false hc8, decide_eq_false hc9, decide_eq_false hc10, decide_eq_false hc11, decide_eq_false hc12, decide_eq_false hc13, decide_eq_false hc14, decide_eq_false hc15, decide_eq_false hc16, decide_eq_false hc17, decide_eq_false hc18, decide_eq_false hc19, decide_eq_false hc20, decide_eq_false hc21, decide_eq_false hc22, cond_true, cond_false] at h
  refine m_may_432 (by decide) hp code a b c d ?_
  rw [in623_out (by
    apply Classical.byContradiction
    intro z
    have hz : code = nI code.toInt.toNat := nI_toI (by omega)
    have hb : code.toInt.toNat < 27 := by omega
    generalize code.toInt.toNat = q at hz hb
    rcases (by omega : q = 0 ∨ q = 1 ∨ q = 2 ∨ q = 3 ∨ q = 4 ∨ q = 5 ∨ q = 6 ∨ q = 7 ∨ q = 8 ∨ q = 9 ∨ q = 10 ∨ q = 11 ∨ q = 12 ∨ q = 13 ∨ q = 14 ∨ q = 15 ∨ q = 16 ∨ q = 17 ∨ q = 18 ∨ q = 19 ∨ q = 20 ∨ q = 21 ∨ q = 22 ∨ q = 23 ∨ q = 24 ∨ q = 25 ∨ q = 26) with y | y | y | y | y | y | y | y | y | y | y | y | y | y | y | y | y | y | y | y | y | y | y | y | y | y | y <;> subst y
    · exact hc0 hz
    · exact hc1 hz
    · exact hc2 hz
    · exact hc3 hz
    · exact hc4 hz
    · exact hc5 hz
    · exact hc6 hz
    · exact hc7 hz
    · exact hc8 hz
    · exact hc9 hz
    · exact hc10 hz
    · exact hc11 hz
    · exact hc12 hz
    · exact hc13 hz
    · exact hc14 hz
    · exact hc15 hz
    · exact hc16 hz
    · exact hc17 hz
    · exact hc18 hz
    · exact hc19 hz
    · exact hc20 hz
    · exact hc21 hz
    · exact hc22 hz
    · exact hc23 hz
    · exact hc24 hz
    · exact hc25 hz
    · exact hc26 hz
    ), Bool.false_and]
  exact h
set_option maxRecDepth 100000 in
set_option maxHeartbeats 1000000 in
theorem m_node {D : Nat} (hD : 6 ≤ D) {P : SP} {S : SS} {m : MS} {Q : xQ} (hw : pWF P) (code a b c d : Int32) (h : Q (some (.int (pTell P code a b c d).1)) (wM (pTell P code a b c d).2 S m)) : Cd D 110 [.ref 0, .int code, .int a, .int b, .int c, .int d] (wM P S m) Q := by
  refine Cd.up hD ?_
  refine Cd.mk cdX8_node 6 4 5 [(0, .ref 0), (1, .int code), (2, .int a), (3, .int b), (4, .int c), (5, .int d)] rfl rfl rfl rfl 100 ?_
  unfold pTell at h
  have hp := hw.1
  refine m_may (by decide) hw _ _ _ _ _ ?_
  refine And.intro (fun h1 => ?_) (fun h1 => ?_)
  · rw [bI_ne0] at h1
    simp only [h1, Bool.not_true, cond_false] at h
    have e80 : (80 : Int32).toInt = 80 := rfl
    refine And.intro (fun h2 => ?_) (fun h2 => ?_)
    · have h3 : pN P < 80 := Int32.lt_iff_toInt_lt.mpr (by
        have := hp.2
        have : (pN P).toInt ≠ 80 := fun z => h2 (Int32.toInt_inj.mp (by rw [z]; rfl))
        omega)
      simp only [decide_eq_true h3, Bool.not_true, cond_false] at h
      have hi : vp_in (pN P) 80 := vp_in_iff.mpr ⟨hp.1, by have := i_lt h3; omega⟩
      refine And.intro hi ?_
      refine And.intro hi ?_
      refine And.intro hi ?_
      refine And.intro hi ?_
      refine And.intro hi ?_
      show Q _ _
      rw [i_add1sub]
      exact h
    · have h3 : ¬ pN P < 80 := fun z => by have := i_lt z; rw [h2] at this; omega
      simp only [decide_eq_false h3, Bool.not_false, cond_true] at h
      exact h
  · rw [bI_eq0] at h1
    simp only [h1, Bool.not_false, cond_true] at h
    exact h
set_option maxRecDepth 100000 in
set_option maxHeartbeats 1000000 in
theorem m_clear {D : Nat} (hD : 1 ≤ D) {P : SP} {S : SS} {m : MS} {Q : xQ} (h : Q (some (.int (pN P))) (wM (pForget P) S m)) : Cd D 111 [.ref 0] (wM P S m) Q := by
  refine Cd.up hD ?_
  refine Cd.mk cdX8_clear 2 4 0 [(0, .ref 0)] rfl rfl rfl rfl 100 ?_
  exact h
