theorem ix_lt (a : Int32) : ix a < 2 ^ 31 := by
  have := (i_rng a).2
  rw [ix_eq]
  omega
section ARR
variable {P : SP} {E : Int32 → SS → SO} {J V : Int → SS → Prop} {d : Nat} {dep : Int32}
theorem CX.made (cx : CX P E J V d dep) {k : Int} {S : SS} {n : Int32} (hJ : J k S) (hn : pIsNode P n = true) (hc : pC P (ix n) = 11) (h : ¬ (hMA S.1 (pa P (ix n)) (pLen P (pb P (ix n)))).1 = -1) : J k ((hMA S.1 (pa P (ix n)) (pLen P (pb P (ix n)))).2, S.2) := cx.2.2.1.2.2.2.2.2.1 k S n hJ hn hc h
theorem CX.put (cx : CX P E J V d dep) {k : Int} {S : SS} {n t i : Int32} (hV : V k S) (h : (oPut S n t i).1 = true) : J k (oPut S n t i).2 := cx.2.2.1.2.2.2.2.2.2.1 k S n t i hV h
theorem CX.hold (cx : CX P E J V d dep) {k : Int} {S : SS} {n : Int32} (hV : V k S) (h : (oHold S n).1 = true) : J k (oHold S n).2 := cx.2.2.1.2.2.2.2.2.2.2.1 k S n hV h
theorem CX.each (cx : CX P E J V d dep) {k : Int} {S : SS} {v t i : Int32} (hJ : J k S) (h : hHasEl S.1 t i = true) : J k (sVar S v (hKindAt S.1 t i) (hAmAt S.1 t i)) := cx.2.2.1.2.2.2.2.2.2.2.2.1 k S v t i hJ h
theorem CX.real (cx : CX P E J V d dep) {k : Int} {S : SS} (hJ : J k S) (t i : Int32) (m : Int64) : fOK6 (hReAt S.1 t i) m ∧ fOK7 (hReAt S.1 t i) m := by
  unfold hReAt
  cases hHasEl S.1 t i
  · exact cx.2.2.1.2.2.2.2.2.2.2.2.2.2 m
  · exact cx.2.2.1.2.2.2.2.2.2.2.2.2.1 k S hJ _ m
/-! FILLED -/
set_option maxRecDepth 100000 in
set_option maxHeartbeats 1000000 in
theorem s_filled_loop (hd : 8 ≤ d) (cx : CX P E J V d dep) {Q : xQ} (n m : Int32) (N : Nat) (hN : N < 2 ^ 31) : ∀ (k i : Nat) {kk : Int} (S : SS), i + k = N → J kk S → Q (some (.int (bI (eFillL P E n m k i S).1))) (wC P (eFillL P E n m k i S).2) → Ev (Cd d) cdX6_workFilled Q 57 [(0, .ref 3), (1, .int n), (2, .int dep), (3, .int (pb P (ix n))), (4, .int (nI N)), (5, .int m), (6, .int (nI i))] [] (wC P S)
  | 0, i, kk, S, hi, hJ, h => by
    have hi : i = N := by omega
    subst hi
    refine Ev.go (Cd.mono d) [57] 100 ?_
    refine And.intro (fun _ => ?_) (fun h1 => absurd (Int32.le_refl _) h1)
    refine s_give (by omega) _ _ ?_
    refine And.intro (Or.inr rfl) ?_
    exact h
  | k + 1, i, kk, S, hi, hJ, h => by
    refine Ev.go (Cd.mono d) [57] 100 ?_
    refine And.intro (fun h1 => absurd h1 (nI_ge (by omega) hN)) (fun _ => ?_)
    unfold eFillL at h
    refine s_nodeOfList (by omega) cx.1 _ _ ?_
    refine cx.call hJ ?_
    rw [oAnd] at h
    refine And.intro (fun h1 => ?_) (fun h1 => ?_)
    · rw [bI_eq0] at h1
      simp only [h1, cond_false] at h
      refine And.intro (Or.inl rfl) ?_
      exact h
    · rw [bI_ne0] at h1
      simp only [h1, cond_true] at h
      refine s_wput (by omega) cx.2.1 (by exact cx.ok (cx.pre hJ)) _ _ _ ?_
      rw [oAnd] at h
      refine And.intro (fun h2 => ?_) (fun h2 => ?_)
      · rw [bI_ne0] at h2
        simp only [h2, cond_true] at h
        have ih := s_filled_loop hd cx n m N hN k (i + 1) _ (by omega) (cx.put (cx.val hJ h1) h2) h
        rw [← nI_1] at ih
        exact ih
      · rw [bI_eq0] at h2
        simp only [h2, cond_false] at h
        refine And.intro (Or.inl rfl) ?_
        exact h
set_option maxRecDepth 100000 in
set_option maxHeartbeats 1000000 in
theorem s_workFilled (hd : 8 ≤ d) (cx : CX P E J V d dep) {k : Int} {S : SS} {Q : xQ} (hJ : J k S) (n : Int32) (hn : pIsNode P n = true) (hc : pC P (ix n) = 11) (h : Q (some (.int (bI (eFilled P E n S).1))) (wC P (eFilled P E n S).2)) : Cd (d + 1) 52 [.ref 3, .int n, .int dep] (wC P S) Q := by
  refine Cd.mk cdX6_workFilled 7 2 2 [(0, .ref 3), (1, .int n), (2, .int dep)] rfl rfl rfl rfl 0 ?_
  refine Ev.go (Cd.mono d) [57] 100 ?_
  refine And.intro (cx.node_in hn) ?_
  refine s_lengthOfList (by omega) cx.1 _ ?_
  refine And.intro (cx.node_in hn) ?_
  refine s_makeArray (by omega) (cx.ok hJ) _ _ ?_
  unfold eFilled at h
  refine And.intro (fun h1 => ?_) (fun h1 => ?_)
  · simp only [decide_eq_false h1, cond_false] at h
    obtain ⟨g1, g2, g3, g4, g5, g6, g7⟩ := hMA_made (cx.ok hJ) h1
    have hl : pLen P (pb P (ix n)) = nI (ix (pLen P (pb P (ix n)))) := nI_toI g1
    have hh := cx.ok hJ
    have := s_filled_loop hd cx n (hMA S.1 (pa P (ix n)) (pLen P (pb P (ix n)))).1 (ix (pLen P (pb P (ix n)))) (ix_lt _) (ix (pLen P (pb P (ix n)))) 0 _ (Nat.zero_add _) (cx.made hJ hn hc h1) h
    rw [← hl] at this
    exact this
  · simp only [decide_eq_true h1, cond_true] at h
    refine s_fail (S := ((hMA S.1 (pa P (ix n)) (pLen P (pb P (ix n)))).2, S.2)) (by omega) _ _ ?_
    refine And.intro (Or.inl rfl) ?_
    exact h
/-! VARIED -/
set_option maxRecDepth 100000 in
set_option maxHeartbeats 1000000 in
theorem s_varied_78 (hd : 8 ≤ d) (cx : CX P E J V d dep) {k : Int} {S : SS} {Q : xQ} (hJ : J k S) (n b : Int32) (i : Int32) (hn : pIsNode P n = true) (hb : 0 ≤ b.toInt ∧ b.toInt ≤ 1600) (h : Q (some (.int (bI (oVary P n b (sHeld S b)).1))) (wC P (oVary P n b (sHeld S b)).2)) : Ev (Cd d) cdX6_workVaried Q 78 [(0, .ref 3), (1, .int n), (2, .int dep), (3, .int (pb P (ix n))), (4, .int (pLen P (pb P (ix n)))), (5, .int b), (6, .int i)] [] (wC P S) := by
  refine Ev.go (Cd.mono d) [116] 100 ?_
  have hend : ∀ (h : Q (some (.int (bI (oGath P (sHeld S b) n b (pLen P (pb P (ix n)))).1))) (wC P (oGath P (sHeld S b) n b (pLen P (pb P (ix n)))).2)), Ev (Cd d) cdX6_workVaried Q 116 [(0, .ref 3), (1, .int n), (2, .int dep), (3, .int (pb P (ix n))), (4, .int (pLen P (pb P (ix n)))), (5, .int b), (6, .int i)] [] (wC P (sHeld S b)) := by
    intro h
    refine Ev.go (Cd.mono d) [] 100 ?_
    refine s_gather (S := sHeld S b) (by omega) cx.2.1 (show hOK S.1 from cx.ok hJ) _ _ _ (cx.node_in hn) hb ?_
    refine And.intro (bI01 _) ?_
    exact h
  unfold oVary at h
  refine And.intro (fun h1 => ?_) (fun h1 => ?_)
  · simp only [decide_eq_false h1, Bool.false_and, cond_false] at h
    exact hend h
  · simp only [decide_eq_true h1, Bool.true_and] at h
    refine And.intro (fun h2 => ?_) (fun h2 => ?_)
    · have h3 : decide (rK (sHeld S b).2.2 = 1) = true := decide_eq_true h2
      simp only [h3, Bool.true_or, cond_true] at h
      refine And.intro (Or.inr rfl) ?_
      exact h
    · have h3 : decide (rK (sHeld S b).2.2 = 1) = false := decide_eq_false h2
      simp only [h3, Bool.false_or] at h
      refine And.intro (cx.node_in hn) ?_
      refine s_isThingOf (S := sHeld S b) (by omega) (show hOK S.1 from cx.ok hJ) _ ?_
      refine And.intro (fun h4 => ?_) (fun h4 => ?_)
      · rw [bI_eq0] at h4
        simp only [h4, cond_false] at h
        exact hend h
      · rw [bI_ne0] at h4
        simp only [h4, cond_true] at h
        refine And.intro (Or.inr rfl) ?_
        exact h
set_option maxRecDepth 100000 in
set_option maxHeartbeats 1000000 in
theorem s_varied_loop (hd : 8 ≤ d) (cx : CX P E J V d dep) {Q : xQ} (n b : Int32) (hn : pIsNode P n = true) (hb : 0 ≤ b.toInt ∧ b.toInt ≤ 1600) (N : Nat) (hN : N < 2 ^ 31) (hl : pLen P (pb P (ix n)) = nI N) : ∀ (k i : Nat) {kk : Int} (S : SS), i + k = N → J kk S → Q (some (.int (bI (eVaryL P E n b k i S).1))) (wC P (eVaryL P E n b k i S).2) → Ev (Cd d) cdX6_workVaried Q 29 [(0, .ref 3), (1, .int n), (2, .int dep), (3, .int (pb P (ix n))), (4, .int (pLen P (pb P (ix n)))), (5, .int b), (6, .int (nI i))] [] (wC P S)
  | 0, i, kk, S, hi, hJ, h => by
    have hi : i = N := by omega
    subst hi
    refine Ev.go (Cd.mono d) [29, 78] 100 ?_
    refine And.intro (fun _ => ?_) (fun h1 => absurd (by rw [hl]; exact Int32.le_refl _) h1)
    exact s_varied_78 hd cx hJ n b _ hn hb h
  | k + 1, i, kk, S, hi, hJ, h => by
    refine Ev.go (Cd.mono d) [29, 78] 100 ?_
    refine And.intro (fun h1 => ?_) (fun _ => ?_)
    · rw [hl] at h1
      exact absurd h1 (nI_ge (by omega) hN)
    unfold eVaryL at h
    refine s_nodeOfList (by omega) cx.1 _ _ ?_
    refine cx.call hJ ?_
    rw [oAnd] at h
    refine And.intro (fun h1 => ?_) (fun h1 => ?_)
    · rw [bI_eq0] at h1
      simp only [h1, cond_false, Bool.not_false, cond_true] at h
      refine And.intro (Or.inl rfl) ?_
      exact h
    · rw [bI_ne0] at h1
      simp only [h1, cond_true] at h
      refine s_hold (by omega) (by exact (cx.held (cx.pre hJ)).1) _ ?_
      refine And.intro (fun h2 => ?_) (fun h2 => ?_)
      · rw [bI_ne0] at h2
        simp only [h2, Bool.not_true, cond_false] at h
        have ih := s_varied_loop hd cx n b hn hb N hN hl k (i + 1) _ (by omega) (cx.hold (cx.val hJ h1) h2) h
        rw [← nI_1] at ih
        exact ih
      · rw [bI_eq0] at h2
        simp only [h2, Bool.not_false, cond_true] at h
        refine And.intro (Or.inl rfl) ?_
        exact h
set_option maxRecDepth 100000 in
set_option maxHeartbeats 1000000 in
theorem s_workVaried (hd : 8 ≤ d) (cx : CX P E J V d dep) {k : Int} {S : SS} {Q : xQ} (hJ : J k S) (n : Int32) (hn : pIsNode P n = true) (hlen : 0 ≤ (pLen P (pb P (ix n))).toInt) (h : Q (some (.int (bI (eVaried P E n S).1))) (wC P (eVaried P E n S).2)) : Cd (d + 1) 53 [.ref 3, .int n, .int dep] (wC P S) Q := by
  refine Cd.mk cdX6_workVaried 7 2 2 [(0, .ref 3), (1, .int n), (2, .int dep)] rfl rfl rfl rfl 0 ?_
  refine Ev.go (Cd.mono d) [29] 100 ?_
  refine And.intro (cx.node_in hn) ?_
  refine s_lengthOfList (by omega) cx.1 _ ?_
  have hl : pLen P (pb P (ix n)) = nI (ix (pLen P (pb P (ix n)))) := nI_toI hlen
  exact s_varied_loop hd cx n (vH S.2.1) hn (cx.held hJ) (ix (pLen P (pb P (ix n)))) (ix_lt _) hl (ix (pLen P (pb P (ix n)))) 0 S (Nat.zero_add _) hJ h
/-! ADD -/
set_option maxRecDepth 100000 in
set_option maxHeartbeats 1000000 in
theorem s_workAdd (hd : 8 ≤ d) (cx : CX P E J V d dep) {k : Int} {S : SS} {Q : xQ} (hJ : J k S) (n t i : Int32) (hn : pIsNode P n = true) (h : Q (some (.int (bI (eAdd P E n t i S).1))) (wC P (eAdd P E n t i S).2)) : Cd (d + 1) 55 [.ref 3, .int n, .int dep, .int t, .int i] (wC P S) Q := by
  refine Cd.mk cdX6_workAdd 9 2 4 [(0, .ref 3), (1, .int n), (2, .int dep), (3, .int t), (4, .int i)] rfl rfl rfl rfl 0 ?_
  refine Ev.go (Cd.mono d) [] 100 ?_
  unfold eAdd at h
  refine s_wantAddable (by omega) (cx.ok hJ) _ _ ?_
  rw [oAnd] at h
  refine And.intro (fun h1 => ?_) (fun h1 => ?_)
  · rw [bI_ne0] at h1
    simp only [h1, cond_true] at h
    rw [oAdd_same h1] at h ⊢
    refine s_amountAt (by omega) (cx.ok hJ) _ _ ?_
    refine s_realAt (by omega) (cx.ok hJ) _ _ ?_
    refine And.intro (cx.node_in hn) ?_
    refine cx.call hJ ?_
    rw [oAnd] at h
    refine And.intro (fun h2 => ?_) (fun h2 => ?_)
    · rw [bI_eq0] at h2
      simp only [h2, cond_false] at h
      refine And.intro (Or.inl rfl) ?_
      exact h
    · rw [bI_ne0] at h2
      simp only [h2, cond_true] at h
      refine s_wantNumber (by omega) _ ?_
      rw [oAnd] at h
      refine And.intro (fun h3 => ?_) (fun h3 => ?_)
      · rw [bI_ne0] at h3
        simp only [h3, cond_true] at h
        rw [oNum_same h3] at h ⊢
        have hr := cx.real hJ t i (rA (E (pc' P (ix n)) S).2.2.2)
        have hh2 := cx.ok (cx.pre (n := pc' P (ix n)) hJ)
        refine s_putSum (S := (E (pc' P (ix n)) S).2) (by omega) hh2 _ _ _ _ _ (fun _ => hr.1) (fun _ => hr.2) ?_
        refine s_giveElement (S := (hSum (E (pc' P (ix n)) S).2.1 t i (hAmAt S.1 t i) (hReAt S.1 t i) (rA (E (pc' P (ix n)) S).2.2.2), (E (pc' P (ix n)) S).2.2)) (by omega) ?_ _ _ ?_
        · show hOK (hSum (E (pc' P (ix n)) S).2.1 t i (hAmAt S.1 t i) (hReAt S.1 t i) (rA (E (pc' P (ix n)) S).2.2.2))
          unfold hSum hSum0
          cases (!hHasEl (E (pc' P (ix n)) S).2.1 t i)
          · cases (decide (hTyEl (E (pc' P (ix n)) S).2.1 t = 6))
            · cases (decide (hTyEl (E (pc' P (ix n)) S).2.1 t = 7))
              · exact hh2
              · exact hh2
            · exact hh2
          · exact hh2
        · refine And.intro (Or.inr rfl) ?_
          exact h
      · rw [bI_eq0] at h3
        simp only [h3, cond_false] at h
        refine And.intro (Or.inl rfl) ?_
        exact h
  · rw [bI_eq0] at h1
    simp only [h1, cond_false] at h
    refine And.intro (Or.inl rfl) ?_
    exact h
end ARR
