section PLACE
variable {P : SP} {E : Int32 → SS → SO} {J V : Int → SS → Prop} {d : Nat} {dep : Int32}
theorem CX.up (cx : CX P E J V d dep) : CX P E J V (d + 1) dep := ⟨cx.1, cx.2.1, cx.2.2.1, cx.2.2.2.1, fun k n S Q hJ h => Cd.up (Nat.le_succ d) (cx.2.2.2.2 k n S Q hJ h)⟩
set_option maxRecDepth 100000 in
set_option maxHeartbeats 1000000 in
theorem s_place_123 (hd : 8 ≤ d) (cx : CX P E J V d dep) {k : Int} {S : SS} {Q : xQ} (hJ : J k S) (n t i : Int32) (hn : pIsNode P n = true) (h : Q (some (.int (bI (ePlace P E n t i S).1))) (wC P (ePlace P E n t i S).2)) : Ev (Cd (d + 1)) cdX6_workAtPlace Q 123 [(0, .ref 3), (1, .int n), (2, .int dep), (3, .int t), (4, .int i), (5, .int (pC P (ix n)))] [] (wC P S) := by
  refine Ev.go (Cd.mono (d + 1)) [] 100 ?_
  unfold ePlace at h
  refine And.intro (fun h1 => ?_) (fun h1 => ?_)
  · simp only [decide_eq_true h1, cond_true] at h
    refine s_wput (by omega) cx.2.1 (cx.ok hJ) _ _ _ ?_
    rw [oAnd] at h
    refine And.intro (fun h2 => ?_) (fun h2 => ?_)
    · rw [bI_eq0] at h2
      simp only [h2, cond_false] at h
      refine And.intro (Or.inl rfl) ?_
      exact h
    · rw [bI_ne0] at h2
      simp only [h2, cond_true] at h
      refine s_giveElement (by omega) (by exact oPut_OK (cx.ok hJ)) _ _ ?_
      refine And.intro (fun h3 => absurd h3 (by decide)) (fun _ => ?_)
      refine And.intro (Or.inr rfl) ?_
      exact h
  · simp only [decide_eq_false h1, cond_false] at h
    refine And.intro (fun h2 => ?_) (fun h2 => ?_)
    · simp only [decide_eq_true h2, cond_true] at h
      refine s_workAdd hd cx hJ n t i hn ?_
      refine And.intro (bI01 _) ?_
      exact h
    · simp only [decide_eq_false h2, cond_false] at h
      refine And.intro (fun h3 => ?_) (fun h3 => ?_)
      · simp only [decide_eq_true h3, cond_true] at h
        have hr := cx.real hJ t i 1
        refine s_wstep (by omega) (cx.ok hJ) _ _ _ ⟨fun _ => hr.1, fun _ => hr.2⟩ ?_
        refine And.intro (bI01 _) ?_
        exact h
      · simp only [decide_eq_false h3, cond_false] at h
        refine s_giveElement (by omega) (cx.ok hJ) _ _ ?_
        refine And.intro (Or.inr rfl) ?_
        exact h
set_option maxRecDepth 100000 in
set_option maxHeartbeats 1000000 in
theorem s_place_110 (hd : 8 ≤ d) (cx : CX P E J V d dep) {k : Int} {S : SS} {Q : xQ} (hJ : J k S) (n t i : Int32) (hn : pIsNode P n = true) (h : Q (some (.int (bI (oAnd (oEl S n t i) (fun S => ePlace P E n t i S)).1))) (wC P (oAnd (oEl S n t i) (fun S => ePlace P E n t i S)).2)) : Ev (Cd (d + 1)) cdX6_workAtPlace Q 110 [(0, .ref 3), (1, .int n), (2, .int dep), (3, .int t), (4, .int i), (5, .int (pC P (ix n)))] [] (wC P S) := by
  refine Ev.go (Cd.mono (d + 1)) [123] 100 ?_
  refine s_wantElement (by omega) (cx.ok hJ) _ _ _ ?_
  rw [oAnd] at h
  refine And.intro (fun h2 => ?_) (fun h2 => ?_)
  · rw [bI_ne0] at h2
    simp only [h2, cond_true] at h
    rw [oEl_same h2] at h ⊢
    exact s_place_123 hd cx hJ n t i hn h
  · rw [bI_eq0] at h2
    simp only [h2, cond_false] at h
    refine And.intro (Or.inl rfl) ?_
    exact h
set_option maxRecDepth 100000 in
set_option maxHeartbeats 1000000 in
theorem s_place_64b (hd : 8 ≤ d) (cx : CX P E J V d dep) {k : Int} {S : SS} {Q : xQ} (hJ : J k S) (n t : Int32) (hn : pIsNode P n = true) (i : Int32) (hi : i = (rA S.2.2).toInt32) (h : Q (some (.int (bI (oAnd (bif decide (pC P (ix n) = 14) then E (pc' P (ix n)) S else (true, S)) (fun S1 => oAnd (oEl S1 n t i) (fun S1 => ePlace P E n t i S1))).1))) (wC P (oAnd (bif decide (pC P (ix n) = 14) then E (pc' P (ix n)) S else (true, S)) (fun S1 => oAnd (oEl S1 n t i) (fun S1 => ePlace P E n t i S1))).2)) : Ev (Cd (d + 1)) cdX6_workAtPlace Q 64 [(0, .ref 3), (1, .int n), (2, .int dep), (3, .int t)] [] (wC P S) := by
  subst hi
  refine Ev.go (Cd.mono (d + 1)) [110] 100 ?_
  refine And.intro (cx.node_in hn) ?_
  refine And.intro (fun h1 => ?_) (fun h1 => ?_)
  · simp only [decide_eq_false h1, cond_false] at h
    rw [oAnd] at h
    exact s_place_110 hd cx hJ n t _ hn h
  · simp only [decide_eq_true h1, cond_true] at h
    refine And.intro (cx.node_in hn) ?_
    refine cx.up.call hJ ?_
    rw [oAnd] at h
    refine And.intro (fun h2 => ?_) (fun h2 => ?_)
    · rw [bI_ne0] at h2
      simp only [h2, cond_true] at h
      exact s_place_110 hd cx (cx.pre hJ) n t _ hn h
    · rw [bI_eq0] at h2
      simp only [h2, cond_false] at h
      refine And.intro (Or.inl rfl) ?_
      exact h
set_option maxRecDepth 100000 in
set_option maxHeartbeats 1000000 in
theorem s_place_29 (hd : 8 ≤ d) (cx : CX P E J V d dep) {k : Int} {S : SS} {Q : xQ} (hJ : J k S) (n : Int32) (hn : pIsNode P n = true) (h : Q (some (.int (bI (oAnd (E (pb P (ix n)) S) (fun S2 => oAnd (oNum S2 n) (fun S2 => oAnd (bif decide (pC P (ix n) = 14) then E (pc' P (ix n)) S2 else (true, S2)) (fun S3 => oAnd (oEl S3 n (rA S.2.2).toInt32 (rA S2.2.2).toInt32) (fun S3 => ePlace P E n (rA S.2.2).toInt32 (rA S2.2.2).toInt32 S3))))).1))) (wC P (oAnd (E (pb P (ix n)) S) (fun S2 => oAnd (oNum S2 n) (fun S2 => oAnd (bif decide (pC P (ix n) = 14) then E (pc' P (ix n)) S2 else (true, S2)) (fun S3 => oAnd (oEl S3 n (rA S.2.2).toInt32 (rA S2.2.2).toInt32) (fun S3 => ePlace P E n (rA S.2.2).toInt32 (rA S2.2.2).toInt32 S3))))).2)) : Ev (Cd (d + 1)) cdX6_workAtPlace Q 29 [(0, .ref 3), (1, .int n), (2, .int dep)] [] (wC P S) := by
  refine Ev.go (Cd.mono (d + 1)) [64] 100 ?_
  refine And.intro (cx.node_in hn) ?_
  refine cx.up.call hJ ?_
  rw [oAnd] at h
  refine And.intro (fun h1 => ?_) (fun h1 => ?_)
  · rw [bI_eq0] at h1
    simp only [h1, cond_false] at h
    refine And.intro (Or.inl rfl) ?_
    exact h
  · rw [bI_ne0] at h1
    simp only [h1, cond_true] at h
    refine s_wantNumber (by omega) _ ?_
    rw [oAnd] at h
    refine And.intro (fun h3 => ?_) (fun h3 => ?_)
    · rw [bI_ne0] at h3
      simp only [h3, cond_true] at h
      rw [oNum_same h3] at h ⊢
      exact s_place_64b hd cx (cx.pre hJ) n _ hn _ rfl h
    · rw [bI_eq0] at h3
      simp only [h3, cond_false] at h
      refine And.intro (Or.inl rfl) ?_
      exact h
set_option maxRecDepth 100000 in
set_option maxHeartbeats 1000000 in
theorem s_workAtPlace (hd : 8 ≤ d) (cx : CX P E J V d dep) {k : Int} {S : SS} {Q : xQ} (hJ : J k S) (n : Int32) (hn : pIsNode P n = true) (h : Q (some (.int (bI (eAtPlace P E n S).1))) (wC P (eAtPlace P E n S).2)) : Cd (d + 2) 54 [.ref 3, .int n, .int dep] (wC P S) Q := by
  refine Cd.mk cdX6_workAtPlace 6 2 2 [(0, .ref 3), (1, .int n), (2, .int dep)] rfl rfl rfl rfl 0 ?_
  refine Ev.go (Cd.mono (d + 1)) [29] 100 ?_
  refine And.intro (cx.node_in hn) ?_
  refine cx.up.call hJ ?_
  unfold eAtPlace at h
  rw [oAnd] at h
  refine And.intro (fun h1 => ?_) (fun h1 => ?_)
  · rw [bI_eq0] at h1
    simp only [h1, cond_false] at h
    refine And.intro (Or.inl rfl) ?_
    exact h
  · rw [bI_ne0] at h1
    simp only [h1, cond_true] at h
    refine s_wantArrayOrNull (by omega) (by exact cx.ok (cx.pre hJ)) _ ?_
    rw [oAnd] at h
    refine And.intro (fun h3 => ?_) (fun h3 => ?_)
    · rw [bI_ne0] at h3
      simp only [h3, cond_true] at h
      rw [oArr_same h3] at h ⊢
      exact s_place_29 hd cx (cx.pre hJ) n hn h
    · rw [bI_eq0] at h3
      simp only [h3, cond_false] at h
      refine And.intro (Or.inl rfl) ?_
      exact h
/-! LENGTH, COPY, EACH -/
set_option maxRecDepth 100000 in
set_option maxHeartbeats 1000000 in
theorem s_each_loop (hd : 8 ≤ d) (cx : CX P E J V d dep) {Q : xQ} (n t : Int32) (hn : pIsNode P n = true) (N : Nat) (hN : N < 2 ^ 31) : ∀ (k i : Nat) {kk : Int} (S : SS), i + k = N → J kk S → (hIsArray S.1 t = true ∧ hLe S.1 (ix t) = nI N) → Q (some (.int (bI (eEachL P E n t (nI N) k i S).1))) (wC P (eEachL P E n t (nI N) k i S).2) → (∀ kk S, J kk S → hIsArray S.1 t = true ∧ hLe S.1 (ix t) = nI N → hIsArray (E (pc' P (ix n)) S).2.1 t = true ∧ hLe (E (pc' P (ix n)) S).2.1 (ix t) = nI N) → Ev (Cd d) cdX6_workWithArray Q 105 [(0, .ref 3), (1, .int n), (2, .int dep), (3, .int t), (4, .int (nI N)), (5, .int (nI i))] [] (wC P S)
  | 0, i, kk, S, hi, hJ, ha, h, hk => by
    have hi : i = N := by omega
    subst hi
    refine Ev.go (Cd.mono d) [105] 100 ?_
    refine And.intro (fun _ => ?_) (fun h1 => absurd (Int32.le_refl _) h1)
    refine s_giveNumber (by omega) _ ?_
    refine And.intro (Or.inr rfl) ?_
    exact h
  | k + 1, i, kk, S, hi, hJ, ha, h, hk => by
    refine Ev.go (Cd.mono d) [105] 100 ?_
    refine And.intro (fun h1 => absurd h1 (nI_ge (by omega) hN)) (fun _ => ?_)
    unfold eEachL at h
    have he : hHasEl S.1 t (nI i) = true := by
      unfold hHasEl
      rw [ha.1, ha.2, decide_eq_false (nI_pos (by omega)), decide_eq_false (nI_ge (by omega) hN)]
      rfl
    refine And.intro (cx.node_in hn) ?_
    refine s_kindAt (by omega) (cx.ok hJ) _ _ ?_
    refine s_amountAt (by omega) (cx.ok hJ) _ _ ?_
    refine s_setVariable (by omega) _ _ _ ?_
    refine And.intro (cx.node_in hn) ?_
    refine cx.call (cx.each hJ he) ?_
    rw [oAnd] at h
    refine And.intro (fun h1 => ?_) (fun h1 => ?_)
    · rw [bI_ne0] at h1
      simp only [h1, cond_true] at h
      have hs : (sVar S (pb P (ix n)) (hKindAt S.1 t (nI i)) (hAmAt S.1 t (nI i))).1 = S.1 := by
        unfold sVar
        cases isVar (pb P (ix n)) <;> rfl
      have ih := s_each_loop hd cx n t hn N hN k (i + 1) _ (by omega) (cx.pre (cx.each hJ he)) (hk _ _ (cx.each hJ he) (by rw [hs]; exact ha)) h hk
      rw [← nI_1] at ih
      exact ih
    · rw [bI_eq0] at h1
      simp only [h1, cond_false] at h
      refine And.intro (Or.inl rfl) ?_
      exact h
set_option maxRecDepth 100000 in
set_option maxHeartbeats 1000000 in
theorem s_workWithArray (hd : 8 ≤ d) (cx : CX P E J V d dep) (hkeep : ∀ kk x S t, J kk S → hIsArray S.1 t = true → hIsArray (E x S).2.1 t = true ∧ hLe (E x S).2.1 (ix t) = hLe S.1 (ix t)) {k : Int} {S : SS} {Q : xQ} (hJ : J k S) (n : Int32) (hn : pIsNode P n = true) (h : Q (some (.int (bI (eWith P E n S).1))) (wC P (eWith P E n S).2)) : Cd (d + 1) 56 [.ref 3, .int n, .int dep] (wC P S) Q := by
  refine Cd.mk cdX6_workWithArray 6 2 2 [(0, .ref 3), (1, .int n), (2, .int dep)] rfl rfl rfl rfl 0 ?_
  refine Ev.go (Cd.mono d) [105] 100 ?_
  refine And.intro (cx.node_in hn) ?_
  refine cx.call hJ ?_
  unfold eWith at h
  rw [oAnd] at h
  refine And.intro (fun h1 => ?_) (fun h1 => ?_)
  · rw [bI_eq0] at h1
    simp only [h1, cond_false] at h
    refine And.intro (Or.inl rfl) ?_
    exact h
  · rw [bI_ne0] at h1
    simp only [h1, cond_true] at h
    have hJ1 := cx.pre (n := pa P (ix n)) hJ
    generalize E (pa P (ix n)) S = X at h1 h hJ1 ⊢
    obtain ⟨b1, S1⟩ := X
    have hJ1 : J k S1 := hJ1
    refine s_wantArrayOrNull (by omega) (by exact cx.ok hJ1) _ ?_
    rw [oAnd] at h
    refine And.intro (fun h3 => ?_) (fun h3 => ?_)
    · rw [bI_ne0] at h3
      simp only [h3, cond_true] at h
      have h3' := h3
      rw [oArr_same h3] at h ⊢
      refine And.intro (fun h4 => ?_) (fun h4 => ?_)
      · simp only [decide_eq_false h4, cond_false] at h
        have ha : hIsArray S1.1 (rA S1.2.2).toInt32 = true := by
          have h3 : (oArr S1 n).1 = true := h3'
          unfold oArr at h3
          rw [decide_eq_false h4, Bool.false_or] at h3
          cases hz : (decide (rK S1.2.2 = 2) && hIsArray S1.1 (rA S1.2.2).toInt32)
          · rw [hz] at h3; cases h3
          · exact (Bool.and_eq_true_iff.mp hz).2
        have hlen : hLenOf S1.1 (rA S1.2.2).toInt32 = hLe S1.1 (ix (rA S1.2.2).toInt32) := by
          unfold hLenOf
          rw [hIsArray_thing ha]
          rfl
        have hr := hArr_rng (cx.ok hJ1) ha
        refine s_lengthOf (by omega) (by exact cx.ok hJ1) _ ?_
        refine And.intro (cx.node_in hn) ?_
        refine And.intro (fun h5 => ?_) (fun h5 => ?_)
        · simp only [decide_eq_false h5, cond_false] at h
          refine And.intro (cx.node_in hn) ?_
          refine And.intro (fun h6 => ?_) (fun h6 => ?_)
          · simp only [decide_eq_false h6, cond_false] at h
            refine s_giveNumber (by omega) _ ?_
            refine And.intro (Or.inr rfl) ?_
            exact h
          · simp only [decide_eq_true h6, cond_true] at h
            have hN : hLenOf S1.1 (rA S1.2.2).toInt32 = nI (ix (hLenOf S1.1 (rA S1.2.2).toInt32)) := nI_toI (by rw [hlen]; exact hr.2.1)
            have hgo := s_each_loop (Q := Q) hd cx n (rA S1.2.2).toInt32 hn (ix (hLenOf S1.1 (rA S1.2.2).toInt32)) (ix_lt _) (ix (hLenOf S1.1 (rA S1.2.2).toInt32)) 0 S1 (Nat.zero_add _) hJ1 ⟨ha, by rw [← hN]; exact hlen.symm⟩ (by rw [← hN]; exact h) (fun kk S2 hj hz => by
              obtain ⟨z1, z2⟩ := hkeep kk (pc' P (ix n)) S2 (rA S1.2.2).toInt32 hj hz.1
              exact ⟨z1, z2.trans hz.2⟩)
            rw [← hN] at hgo
            exact hgo
        · simp only [decide_eq_true h5, cond_true] at h
          refine s_makeCopy (by omega) (by exact cx.ok hJ1) _ ?_
          refine s_giveMade (S := ((hCopy S1.1 (rA S1.2.2).toInt32).2, S1.2)) (by omega) _ _ ?_
          refine And.intro (bI01 _) ?_
          exact h
      · simp only [decide_eq_true h4, cond_true] at h
        refine s_fail (by omega) _ _ ?_
        refine And.intro (Or.inl rfl) ?_
        exact h
    · rw [bI_eq0] at h3
      simp only [h3, cond_false] at h
      refine And.intro (Or.inl rfl) ?_
      exact h
end PLACE
