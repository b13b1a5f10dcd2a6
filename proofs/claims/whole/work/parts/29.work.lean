section MOVE
variable {P : SP} {E : Int32 → SS → SO} {J V : Int → SS → Prop} {d : Nat} {dep : Int32}
set_option maxRecDepth 100000 in
set_option maxHeartbeats 1000000 in
theorem s_move_195 (hd : 8 ≤ d) (cx : CX P E J V d dep) {k : Int} {S : SS} {Q : xQ} (hJ : J k S) (n f s t p c : Int32) (h : Q (some (.int (bI (oMove n f s t p c S).1))) (wC P (oMove n f s t p c S).2)) : Ev (Cd d) cdX6_workMove Q 195 [(0, .ref 3), (1, .int n), (2, .int dep), (3, .int f), (4, .int s), (5, .int t), (6, .int p), (7, .int c)] [] (wC P S) := by
  refine Ev.go (Cd.mono d) [206] 100 ?_
  have hnull : ∀ h : Q (some (.int 0)) (wC P (sFail S 1 n)), Ev (Cd d) cdX6_workMove Q 206 [(0, .ref 3), (1, .int n), (2, .int dep), (3, .int f), (4, .int s), (5, .int t), (6, .int p), (7, .int c)] [] (wC P S) := by
    intro h
    refine Ev.go (Cd.mono d) [] 100 ?_
    refine s_fail (by omega) _ _ ?_
    refine And.intro (Or.inl rfl) ?_
    exact h
  unfold oMove at h
  refine And.intro (fun h1 => ?_) (fun h1 => ?_)
  · simp only [decide_eq_true h1, Bool.true_or, cond_true] at h
    exact hnull h
  · refine And.intro (fun h2 => ?_) (fun h2 => ?_)
    · simp only [decide_eq_false h1, decide_eq_false h2, Bool.or_false, cond_false] at h
      refine s_move (by omega) (cx.ok hJ) _ _ _ _ _ ?_
      refine And.intro (fun h3 => ?_) (fun h3 => ?_)
      · simp only [decide_eq_false h3, cond_false] at h
        refine s_fail (S := ((hMove S.1 f s t p c).2, S.2)) (by omega) _ _ ?_
        refine And.intro (Or.inl rfl) ?_
        exact h
      · simp only [decide_eq_true h3, cond_true] at h
        refine s_giveNumber (S := ((hMove S.1 f s t p c).2, S.2)) (by omega) _ ?_
        refine And.intro (Or.inr rfl) ?_
        exact h
    · simp only [decide_eq_true h2, Bool.or_true, cond_true] at h
      exact hnull h
set_option maxRecDepth 100000 in
set_option maxHeartbeats 1000000 in
theorem s_move_151 (hd : 8 ≤ d) (cx : CX P E J V d dep) {k : Int} {S : SS} {Q : xQ} (hJ : J k S) (n f s t p : Int32) (hn : pIsNode P n = true) (h : Q (some (.int (bI (oAnd (E (pNth P (pd P (ix n)) 1) S) (fun S => oAnd (oNum S n) (fun S5 => oMove n f s t p (rA S5.2.2).toInt32 S5))).1))) (wC P (oAnd (E (pNth P (pd P (ix n)) 1) S) (fun S => oAnd (oNum S n) (fun S5 => oMove n f s t p (rA S5.2.2).toInt32 S5))).2)) : Ev (Cd d) cdX6_workMove Q 151 [(0, .ref 3), (1, .int n), (2, .int dep), (3, .int f), (4, .int s), (5, .int t), (6, .int p)] [] (wC P S) := by
  refine Ev.go (Cd.mono d) [195] 100 ?_
  refine And.intro (cx.node_in hn) ?_
  refine s_nodeOfList (by omega) cx.1 _ _ ?_
  refine cx.call hJ ?_
  rw [oAnd] at h
  refine And.intro (fun h1 => ?_) (fun h1 => ?_)
  · rw [bI_eq0] at h1
    simp only [h1, cond_false] at h
    refine And.intro (Or.inl rfl) ?_
    exact h
  · rw [bI_ne0] at h1
    simp only [h1, cond_true] at h
    refine s_wantNumber (by omega) _ ?_
    rw [oAnd] at h
    refine And.intro (fun h3 => ?_) (fun h3 => ?_)
    · rw [bI_ne0] at h3
      simp only [h3, cond_true] at h
      rw [oNum_same h3] at h ⊢
      exact s_move_195 hd cx (cx.pre hJ) n f s t p _ h
    · rw [bI_eq0] at h3
      simp only [h3, cond_false] at h
      refine And.intro (Or.inl rfl) ?_
      exact h
set_option maxRecDepth 100000 in
set_option maxHeartbeats 1000000 in
theorem s_move_107 (hd : 8 ≤ d) (cx : CX P E J V d dep) {k : Int} {S : SS} {Q : xQ} (hJ : J k S) (n f s t : Int32) (hn : pIsNode P n = true) (h : Q (some (.int (bI (oAnd (E (pNth P (pd P (ix n)) 0) S) (fun S => oAnd (oNum S n) (fun S4 => oAnd (E (pNth P (pd P (ix n)) 1) S4) (fun S => oAnd (oNum S n) (fun S5 => oMove n f s t (rA S4.2.2).toInt32 (rA S5.2.2).toInt32 S5))))).1))) (wC P (oAnd (E (pNth P (pd P (ix n)) 0) S) (fun S => oAnd (oNum S n) (fun S4 => oAnd (E (pNth P (pd P (ix n)) 1) S4) (fun S => oAnd (oNum S n) (fun S5 => oMove n f s t (rA S4.2.2).toInt32 (rA S5.2.2).toInt32 S5))))).2)) : Ev (Cd d) cdX6_workMove Q 107 [(0, .ref 3), (1, .int n), (2, .int dep), (3, .int f), (4, .int s), (5, .int t)] [] (wC P S) := by
  refine Ev.go (Cd.mono d) [151] 100 ?_
  refine And.intro (cx.node_in hn) ?_
  refine s_nodeOfList (by omega) cx.1 _ _ ?_
  refine cx.call hJ ?_
  rw [oAnd] at h
  refine And.intro (fun h1 => ?_) (fun h1 => ?_)
  · rw [bI_eq0] at h1
    simp only [h1, cond_false] at h
    refine And.intro (Or.inl rfl) ?_
    exact h
  · rw [bI_ne0] at h1
    simp only [h1, cond_true] at h
    refine s_wantNumber (by omega) _ ?_
    rw [oAnd] at h
    refine And.intro (fun h3 => ?_) (fun h3 => ?_)
    · rw [bI_ne0] at h3
      simp only [h3, cond_true] at h
      rw [oNum_same h3] at h ⊢
      exact s_move_151 hd cx (cx.pre hJ) n f s t _ hn h
    · rw [bI_eq0] at h3
      simp only [h3, cond_false] at h
      refine And.intro (Or.inl rfl) ?_
      exact h
set_option maxRecDepth 100000 in
set_option maxHeartbeats 1000000 in
theorem s_move_71 (hd : 8 ≤ d) (cx : CX P E J V d dep) {k : Int} {S : SS} {Q : xQ} (hJ : J k S) (n f s : Int32) (hn : pIsNode P n = true) (h : Q (some (.int (bI (oAnd (E (pc' P (ix n)) S) (fun S => oAnd (oArr S n) (fun S3 => oAnd (E (pNth P (pd P (ix n)) 0) S3) (fun S => oAnd (oNum S n) (fun S4 => oAnd (E (pNth P (pd P (ix n)) 1) S4) (fun S => oAnd (oNum S n) (fun S5 => oMove n f s (rA S3.2.2).toInt32 (rA S4.2.2).toInt32 (rA S5.2.2).toInt32 S5))))))).1))) (wC P (oAnd (E (pc' P (ix n)) S) (fun S => oAnd (oArr S n) (fun S3 => oAnd (E (pNth P (pd P (ix n)) 0) S3) (fun S => oAnd (oNum S n) (fun S4 => oAnd (E (pNth P (pd P (ix n)) 1) S4) (fun S => oAnd (oNum S n) (fun S5 => oMove n f s (rA S3.2.2).toInt32 (rA S4.2.2).toInt32 (rA S5.2.2).toInt32 S5))))))).2)) : Ev (Cd d) cdX6_workMove Q 71 [(0, .ref 3), (1, .int n), (2, .int dep), (3, .int f), (4, .int s)] [] (wC P S) := by
  refine Ev.go (Cd.mono d) [107] 100 ?_
  refine And.intro (cx.node_in hn) ?_
  refine cx.call hJ ?_
  rw [oAnd] at h
  refine And.intro (fun h1 => ?_) (fun h1 => ?_)
  · rw [bI_eq0] at h1
    simp only [h1, cond_false] at h
    refine And.intro (Or.inl rfl) ?_
    exact h
  · rw [bI_ne0] at h1
    simp only [h1, cond_true] at h
    refine s_wantArrayOrNull (by omega) (by exact cx.ok (cx.pre hJ)) _ ?_
    rw [oAnd] at h
    refine And.intro (fun h3 => ?_) (fun h3 => ?_)
    · rw [bI_ne0] at h3
      simp only [h3, cond_true] at h
      rw [oArr_same h3] at h ⊢
      exact s_move_107 hd cx (cx.pre hJ) n f s _ hn h
    · rw [bI_eq0] at h3
      simp only [h3, cond_false] at h
      refine And.intro (Or.inl rfl) ?_
      exact h
set_option maxRecDepth 100000 in
set_option maxHeartbeats 1000000 in
theorem s_move_35 (hd : 8 ≤ d) (cx : CX P E J V d dep) {k : Int} {S : SS} {Q : xQ} (hJ : J k S) (n f : Int32) (hn : pIsNode P n = true) (h : Q (some (.int (bI (oAnd (E (pb P (ix n)) S) (fun S => oAnd (oNum S n) (fun S2 => oAnd (E (pc' P (ix n)) S2) (fun S => oAnd (oArr S n) (fun S3 => oAnd (E (pNth P (pd P (ix n)) 0) S3) (fun S => oAnd (oNum S n) (fun S4 => oAnd (E (pNth P (pd P (ix n)) 1) S4) (fun S => oAnd (oNum S n) (fun S5 => oMove n f (rA S2.2.2).toInt32 (rA S3.2.2).toInt32 (rA S4.2.2).toInt32 (rA S5.2.2).toInt32 S5))))))))).1))) (wC P (oAnd (E (pb P (ix n)) S) (fun S => oAnd (oNum S n) (fun S2 => oAnd (E (pc' P (ix n)) S2) (fun S => oAnd (oArr S n) (fun S3 => oAnd (E (pNth P (pd P (ix n)) 0) S3) (fun S => oAnd (oNum S n) (fun S4 => oAnd (E (pNth P (pd P (ix n)) 1) S4) (fun S => oAnd (oNum S n) (fun S5 => oMove n f (rA S2.2.2).toInt32 (rA S3.2.2).toInt32 (rA S4.2.2).toInt32 (rA S5.2.2).toInt32 S5))))))))).2)) : Ev (Cd d) cdX6_workMove Q 35 [(0, .ref 3), (1, .int n), (2, .int dep), (3, .int f)] [] (wC P S) := by
  refine Ev.go (Cd.mono d) [71] 100 ?_
  refine And.intro (cx.node_in hn) ?_
  refine cx.call hJ ?_
  rw [oAnd] at h
  refine And.intro (fun h1 => ?_) (fun h1 => ?_)
  · rw [bI_eq0] at h1
    simp only [h1, cond_false] at h
    refine And.intro (Or.inl rfl) ?_
    exact h
  · rw [bI_ne0] at h1
    simp only [h1, cond_true] at h
    refine s_wantNumber (by omega) _ ?_
    rw [oAnd] at h
    refine And.intro (fun h3 => ?_) (fun h3 => ?_)
    · rw [bI_ne0] at h3
      simp only [h3, cond_true] at h
      rw [oNum_same h3] at h ⊢
      exact s_move_71 hd cx (cx.pre hJ) n f _ hn h
    · rw [bI_eq0] at h3
      simp only [h3, cond_false] at h
      refine And.intro (Or.inl rfl) ?_
      exact h
set_option maxRecDepth 100000 in
set_option maxHeartbeats 1000000 in
theorem s_workMove (hd : 8 ≤ d) (cx : CX P E J V d dep) {k : Int} {S : SS} {Q : xQ} (hJ : J k S) (n : Int32) (hn : pIsNode P n = true) (h : Q (some (.int (bI (eMove P E n S).1))) (wC P (eMove P E n S).2)) : Cd (d + 1) 57 [.ref 3, .int n, .int dep] (wC P S) Q := by
  refine Cd.mk cdX6_workMove 9 2 2 [(0, .ref 3), (1, .int n), (2, .int dep)] rfl rfl rfl rfl 0 ?_
  refine Ev.go (Cd.mono d) [35] 100 ?_
  refine And.intro (cx.node_in hn) ?_
  refine cx.call hJ ?_
  unfold eMove at h
  rw [oAnd] at h
  refine And.intro (fun h1 => ?_) (fun h1 => ?_)
  · rw [bI_eq0] at h1
    simp only [h1, cond_false] at h
    refine And.intro (Or.inl rfl) ?_
    exact h
  · rw [bI_ne0] at h1
    simp only [h1, cond_true] at h
    refine s_wantArrayOrNull (by omega) (by exact cx.ok (cx.pre hJ)) _ ?_
    rw [oAnd] at h
    refine And.intro (fun h3 => ?_) (fun h3 => ?_)
    · rw [bI_ne0] at h3
      simp only [h3, cond_true] at h
      rw [oArr_same h3] at h ⊢
      exact s_move_35 hd cx (cx.pre hJ) n _ hn h
    · rw [bI_eq0] at h3
      simp only [h3, cond_false] at h
      refine And.intro (Or.inl rfl) ?_
      exact h
set_option maxRecDepth 100000 in
set_option maxHeartbeats 1000000 in
theorem s_work (hd : 8 ≤ d) (cx : CX P E J V d dep) (hdep : ¬ 80 < dep) (hkeep : ∀ kk x S t, J kk S → hIsArray S.1 t = true → hIsArray (E x S).2.1 t = true ∧ hLe (E x S).2.1 (ix t) = hLe S.1 (ix t)) (hlens : ∀ n, pIsNode P n = true → pC P (ix n) = 22 → 0 ≤ (pLen P (pb P (ix n))).toInt) {k : Int} {S : SS} {Q : xQ} (hJ : J k S) (n : Int32) (h : Q (some (.int (bI (bif !pIsNode P n then (false, sFail S 10 n) else bif pIsList P n then (false, sFail S 9 n) else bif !decide (rN S.2.2 < 3000) then (false, sFail S 10 n) else eNode P E n (sWork S)).1))) (wC P (bif !pIsNode P n then (false, sFail S 10 n) else bif pIsList P n then (false, sFail S 9 n) else bif !decide (rN S.2.2 < 3000) then (false, sFail S 10 n) else eNode P E n (sWork S)).2)) : Cd (d + 3) 48 [.ref 3, .int n, .int dep] (wC P S) Q := by
  refine Cd.mk cdX6_work 3 2 2 [(0, .ref 3), (1, .int n), (2, .int dep)] rfl rfl rfl rfl 0 ?_
  refine Ev.go (Cd.mono (d + 2)) [] 300 ?_
  refine s_isNode (by omega) n ?_
  refine And.intro (fun h1 => ?_) (fun h1 => ?_)
  · rw [bI_eq0] at h1
    simp only [h1, Bool.not_false, cond_true] at h
    refine s_fail (by omega) _ _ ?_
    refine And.intro (Or.inl rfl) ?_
    exact h
  · rw [bI_ne0] at h1
    simp only [h1, Bool.not_true, cond_false] at h
    refine And.intro (fun _ => ?_) (fun h2 => absurd (Int32.not_lt.mp hdep) h2)
    refine s_isList (by omega) cx.1 n ?_
    refine And.intro (fun h3 => ?_) (fun h3 => ?_)
    · rw [bI_eq0] at h3
      simp only [h3, cond_false] at h
      refine And.intro (fun h4 => ?_) (fun h4 => ?_)
      · simp only [decide_eq_true h4, Bool.not_true, cond_false] at h
        have hJ1 : J (k - 1) (sWork S) := cx.2.2.1.2.2.1 k S hJ h4
        refine And.intro (cx.node_in h1) ?_
        unfold eNode at h
        refine And.intro (fun hc0 => ?_) (fun hc0 => ?_)
        · simp only [decide_eq_true hc0, cond_true, cond_false] at h
          refine And.intro (cx.node_in h1) ?_
          refine s_giveNumber (S := sWork S) (by omega) _ ?_
          refine And.intro (Or.inr rfl) ?_
          exact h
        refine And.intro (fun hc1 => ?_) (fun hc1 => ?_)
        · simp only [decide_eq_false hc0, decide_eq_true hc1, cond_true, cond_false] at h
          refine s_give (S := sWork S) (by omega) _ _ ?_
          refine And.intro (Or.inr rfl) ?_
          exact h
        refine And.intro (fun hc2 => ?_) (fun hc2 => ?_)
        · simp only [decide_eq_false hc0, decide_eq_false hc1, decide_eq_true hc2, cond_true, cond_false] at h
          refine And.intro (cx.node_in h1) ?_
          refine s_giveVariable (S := sWork S) (by omega) _ ?_
          refine And.intro (Or.inr rfl) ?_
          exact h
        refine And.intro (fun hc3 => ?_) (fun hc3 => ?_)
        · simp only [decide_eq_false hc0, decide_eq_false hc1, decide_eq_false hc2, decide_eq_true hc3, cond_true, cond_false] at h
          refine Cd.up (Nat.le_succ (d + 1)) (s_workFlow hd cx hJ1 n h1 (fun _ => cx.2.2.1.2.2.2.1 k S _ hJ h4) ?_)
          refine And.intro (bI01 _) ?_
          exact h
        refine And.intro (fun hc4 => ?_) (fun hc4 => ?_)
        · simp only [decide_eq_false hc0, decide_eq_false hc1, decide_eq_false hc2, decide_eq_false hc3, decide_eq_true hc4, cond_true, cond_false] at h
          refine Cd.up (Nat.le_succ (d + 1)) (s_workFlow hd cx hJ1 n h1 (fun _ => cx.2.2.1.2.2.2.1 k S _ hJ h4) ?_)
          refine And.intro (bI01 _) ?_
          exact h
        refine And.intro (fun hc5 => ?_) (fun hc5 => ?_)
        · simp only [decide_eq_false hc0, decide_eq_false hc1, decide_eq_false hc2, decide_eq_false hc3, decide_eq_false hc4, decide_eq_true hc5, cond_true, cond_false] at h
          refine s_fail (S := sWork S) (by omega) _ _ ?_
          refine And.intro (Or.inl rfl) ?_
          exact h
        refine And.intro (fun hc6 => ?_) (fun hc6 => ?_)
        · simp only [decide_eq_false hc0, decide_eq_false hc1, decide_eq_false hc2, decide_eq_false hc3, decide_eq_false hc4, decide_eq_false hc5, decide_eq_true hc6, cond_true, cond_false] at h
          refine Cd.up (Nat.le_succ (d + 1)) (s_workTwo hd cx hJ1 n h1 ?_)
          refine And.intro (bI01 _) ?_
          exact h
        refine And.intro (fun hc7 => ?_) (fun hc7 => ?_)
        · simp only [decide_eq_false hc0, decide_eq_false hc1, decide_eq_false hc2, decide_eq_false hc3, decide_eq_false hc4, decide_eq_false hc5, decide_eq_false hc6, decide_eq_true hc7, cond_true, cond_false] at h
          refine Cd.up (Nat.le_succ (d + 1)) (s_workTwo hd cx hJ1 n h1 ?_)
          refine And.intro (bI01 _) ?_
          exact h
        refine And.intro (fun hc8 => ?_) (fun hc8 => ?_)
        · simp only [decide_eq_false hc0, decide_eq_false hc1, decide_eq_false hc2, decide_eq_false hc3, decide_eq_false hc4, decide_eq_false hc5, decide_eq_false hc6, decide_eq_false hc7, decide_eq_true hc8, cond_true, cond_false] at h
          refine And.intro (cx.node_in h1) ?_
          refine s_makeInstance (S := sWork S) (by omega) (cx.ok hJ1) _ ?_
          refine s_giveMade (S := ((hMk (sWork S).1 (pa P (ix n)) (-1) 0).2, (sWork S).2)) (by omega) _ _ ?_
          refine And.intro (bI01 _) ?_
          exact h
        refine And.intro (fun hc9 => ?_) (fun hc9 => ?_)
        · simp only [decide_eq_false hc0, decide_eq_false hc1, decide_eq_false hc2, decide_eq_false hc3, decide_eq_false hc4, decide_eq_false hc5, decide_eq_false hc6, decide_eq_false hc7, decide_eq_false hc8, decide_eq_true hc9, cond_true, cond_false] at h
          refine Cd.up (Nat.le_succ (d + 1)) (s_workMake hd cx hJ1 n h1 ?_)
          refine And.intro (bI01 _) ?_
          exact h
        refine And.intro (fun hc10 => ?_) (fun hc10 => ?_)
        · simp only [decide_eq_false hc0, decide_eq_false hc1, decide_eq_false hc2, decide_eq_false hc3, decide_eq_false hc4, decide_eq_false hc5, decide_eq_false hc6, decide_eq_false hc7, decide_eq_false hc8, decide_eq_false hc9, decide_eq_true hc10, cond_true, cond_false] at h
          refine Cd.up (Nat.le_succ (d + 1)) (s_workFlow hd cx hJ1 n h1 (fun _ => cx.2.2.1.2.2.2.1 k S _ hJ h4) ?_)
          refine And.intro (bI01 _) ?_
          exact h
        refine And.intro (fun hc11 => ?_) (fun hc11 => ?_)
        · simp only [decide_eq_false hc0, decide_eq_false hc1, decide_eq_false hc2, decide_eq_false hc3, decide_eq_false hc4, decide_eq_false hc5, decide_eq_false hc6, decide_eq_false hc7, decide_eq_false hc8, decide_eq_false hc9, decide_eq_false hc10, decide_eq_true hc11, cond_true, cond_false] at h
          refine Cd.up (Nat.le_succ (d + 1)) (s_workFilled hd cx hJ1 n h1 hc11 ?_)
          refine And.intro (bI01 _) ?_
          exact h
        refine And.intro (fun hc12 => ?_) (fun hc12 => ?_)
        · simp only [decide_eq_false hc0, decide_eq_false hc1, decide_eq_false hc2, decide_eq_false hc3, decide_eq_false hc4, decide_eq_false hc5, decide_eq_false hc6, decide_eq_false hc7, decide_eq_false hc8, decide_eq_false hc9, decide_eq_false hc10, decide_eq_false hc11, decide_eq_true hc12, cond_true, cond_false] at h
          refine Cd.up (Nat.le_succ (d + 1)) (s_workWithArray hd cx hkeep hJ1 n h1 ?_)
          refine And.intro (bI01 _) ?_
          exact h
        refine And.intro (fun hc13 => ?_) (fun hc13 => ?_)
        · simp only [decide_eq_false hc0, decide_eq_false hc1, decide_eq_false hc2, decide_eq_false hc3, decide_eq_false hc4, decide_eq_false hc5, decide_eq_false hc6, decide_eq_false hc7, decide_eq_false hc8, decide_eq_false hc9, decide_eq_false hc10, decide_eq_false hc11, decide_eq_false hc12, decide_eq_true hc13, cond_true, cond_false] at h
          refine s_workAtPlace hd cx hJ1 n h1 ?_
          refine And.intro (bI01 _) ?_
          exact h
        refine And.intro (fun hc14 => ?_) (fun hc14 => ?_)
        · simp only [decide_eq_false hc0, decide_eq_false hc1, decide_eq_false hc2, decide_eq_false hc3, decide_eq_false hc4, decide_eq_false hc5, decide_eq_false hc6, decide_eq_false hc7, decide_eq_false hc8, decide_eq_false hc9, decide_eq_false hc10, decide_eq_false hc11, decide_eq_false hc12, decide_eq_false hc13, decide_eq_true hc14, cond_true, cond_false] at h
          refine s_workAtPlace hd cx hJ1 n h1 ?_
          refine And.intro (bI01 _) ?_
          exact h
        refine And.intro (fun hc15 => ?_) (fun hc15 => ?_)
        · simp only [decide_eq_false hc0, decide_eq_false hc1, decide_eq_false hc2, decide_eq_false hc3, decide_eq_false hc4, decide_eq_false hc5, decide_eq_false hc6, decide_eq_false hc7, decide_eq_false hc8, decide_eq_false hc9, decide_eq_false hc10, decide_eq_false hc11, decide_eq_false hc12, decide_eq_false hc13, decide_eq_false hc14, decide_eq_true hc15, cond_true, cond_false] at h
          refine s_workAtPlace hd cx hJ1 n h1 ?_
          refine And.intro (bI01 _) ?_
          exact h
        refine And.intro (fun hc16 => ?_) (fun hc16 => ?_)
        · simp only [decide_eq_false hc0, decide_eq_false hc1, decide_eq_false hc2, decide_eq_false hc3, decide_eq_false hc4, decide_eq_false hc5, decide_eq_false hc6, decide_eq_false hc7, decide_eq_false hc8, decide_eq_false hc9, decide_eq_false hc10, decide_eq_false hc11, decide_eq_false hc12, decide_eq_false hc13, decide_eq_false hc14, decide_eq_false hc15, decide_eq_true hc16, cond_true, cond_false] at h
          refine s_workAtPlace hd cx hJ1 n h1 ?_
          refine And.intro (bI01 _) ?_
          exact h
        refine And.intro (fun hc17 => ?_) (fun hc17 => ?_)
        · simp only [decide_eq_false hc0, decide_eq_false hc1, decide_eq_false hc2, decide_eq_false hc3, decide_eq_false hc4, decide_eq_false hc5, decide_eq_false hc6, decide_eq_false hc7, decide_eq_false hc8, decide_eq_false hc9, decide_eq_false hc10, decide_eq_false hc11, decide_eq_false hc12, decide_eq_false hc13, decide_eq_false hc14, decide_eq_false hc15, decide_eq_false hc16, decide_eq_true hc17, cond_true, cond_false] at h
          refine Cd.up (Nat.le_succ (d + 1)) (s_workWithArray hd cx hkeep hJ1 n h1 ?_)
          refine And.intro (bI01 _) ?_
          exact h
        refine And.intro (fun hc18 => ?_) (fun hc18 => ?_)
        · simp only [decide_eq_false hc0, decide_eq_false hc1, decide_eq_false hc2, decide_eq_false hc3, decide_eq_false hc4, decide_eq_false hc5, decide_eq_false hc6, decide_eq_false hc7, decide_eq_false hc8, decide_eq_false hc9, decide_eq_false hc10, decide_eq_false hc11, decide_eq_false hc12, decide_eq_false hc13, decide_eq_false hc14, decide_eq_false hc15, decide_eq_false hc16, decide_eq_false hc17, decide_eq_true hc18, cond_true, cond_false] at h
          refine Cd.up (Nat.le_succ (d + 1)) (s_workFlow hd cx hJ1 n h1 (fun _ => cx.2.2.1.2.2.2.1 k S _ hJ h4) ?_)
          refine And.intro (bI01 _) ?_
          exact h
        refine And.intro (fun hc19 => ?_) (fun hc19 => ?_)
        · simp only [decide_eq_false hc0, decide_eq_false hc1, decide_eq_false hc2, decide_eq_false hc3, decide_eq_false hc4, decide_eq_false hc5, decide_eq_false hc6, decide_eq_false hc7, decide_eq_false hc8, decide_eq_false hc9, decide_eq_false hc10, decide_eq_false hc11, decide_eq_false hc12, decide_eq_false hc13, decide_eq_false hc14, decide_eq_false hc15, decide_eq_false hc16, decide_eq_false hc17, decide_eq_false hc18, decide_eq_true hc19, cond_true, cond_false] at h
          refine Cd.up (Nat.le_succ (d + 1)) (s_workFlow hd cx hJ1 n h1 (fun _ => cx.2.2.1.2.2.2.1 k S _ hJ h4) ?_)
          refine And.intro (bI01 _) ?_
          exact h
        refine And.intro (fun hc20 => ?_) (fun hc20 => ?_)
        · simp only [decide_eq_false hc0, decide_eq_false hc1, decide_eq_false hc2, decide_eq_false hc3, decide_eq_false hc4, decide_eq_false hc5, decide_eq_false hc6, decide_eq_false hc7, decide_eq_false hc8, decide_eq_false hc9, decide_eq_false hc10, decide_eq_false hc11, decide_eq_false hc12, decide_eq_false hc13, decide_eq_false hc14, decide_eq_false hc15, decide_eq_false hc16, decide_eq_false hc17, decide_eq_false hc18, decide_eq_false hc19, decide_eq_true hc20, cond_true, cond_false] at h
          refine Cd.up (Nat.le_succ (d + 1)) (s_workTwo hd cx hJ1 n h1 ?_)
          refine And.intro (bI01 _) ?_
          exact h
        refine And.intro (fun hc21 => ?_) (fun hc21 => ?_)
        · simp only [decide_eq_false hc0, decide_eq_false hc1, decide_eq_false hc2, decide_eq_false hc3, decide_eq_false hc4, decide_eq_false hc5, decide_eq_false hc6, decide_eq_false hc7, decide_eq_false hc8, decide_eq_false hc9, decide_eq_false hc10, decide_eq_false hc11, decide_eq_false hc12, decide_eq_false hc13, decide_eq_false hc14, decide_eq_false hc15, decide_eq_false hc16, decide_eq_false hc17, decide_eq_false hc18, decide_eq_false hc19, decide_eq_false hc20, decide_eq_true hc21, cond_true, cond_false] at h
          refine Cd.up (Nat.le_succ (d + 1)) (s_workWithArray hd cx hkeep hJ1 n h1 ?_)
          refine And.intro (bI01 _) ?_
          exact h
        refine And.intro (fun hc22 => ?_) (fun hc22 => ?_)
        · simp only [decide_eq_false hc0, decide_eq_false hc1, decide_eq_false hc2, decide_eq_false hc3, decide_eq_false hc4, decide_eq_false hc5, decide_eq_false hc6, decide_eq_false hc7, decide_eq_false hc8, decide_eq_false hc9, decide_eq_false hc10, decide_eq_false hc11, decide_eq_false hc12, decide_eq_false hc13, decide_eq_false hc14, decide_eq_false hc15, decide_eq_false hc16, decide_eq_false hc17, decide_eq_false hc18, decide_eq_false hc19, decide_eq_false hc20, decide_eq_false hc21, decide_eq_true hc22, cond_true, cond_false] at h
          refine Cd.up (Nat.le_succ (d + 1)) (s_workVaried hd cx hJ1 n h1 (hlens n h1 hc22) ?_)
          refine And.intro (bI01 _) ?_
          exact h
        refine And.intro (fun hc23 => ?_) (fun hc23 => ?_)
        · simp only [decide_eq_false hc0, decide_eq_false hc1, decide_eq_false hc2, decide_eq_false hc3, decide_eq_false hc4, decide_eq_false hc5, decide_eq_false hc6, decide_eq_false hc7, decide_eq_false hc8, decide_eq_false hc9, decide_eq_false hc10, decide_eq_false hc11, decide_eq_false hc12, decide_eq_false hc13, decide_eq_false hc14, decide_eq_false hc15, decide_eq_false hc16, decide_eq_false hc17, decide_eq_false hc18, decide_eq_false hc19, decide_eq_false hc20, decide_eq_false hc21, decide_eq_false hc22, decide_eq_true hc23, cond_true, cond_false] at h
          refine Cd.up (Nat.le_succ (d + 1)) (s_workFlow hd cx hJ1 n h1 (fun _ => cx.2.2.1.2.2.2.1 k S _ hJ h4) ?_)
          refine And.intro (bI01 _) ?_
          exact h
        refine And.intro (fun hc24 => ?_) (fun hc24 => ?_)
        · simp only [decide_eq_false hc0, decide_eq_false hc1, decide_eq_false hc2, decide_eq_false hc3, decide_eq_false hc4, decide_eq_false hc5, decide_eq_false hc6, decide_eq_false hc7, decide_eq_false hc8, decide_eq_false hc9, decide_eq_false hc10, decide_eq_false hc11, decide_eq_false hc12, decide_eq_false hc13, decide_eq_false hc14, decide_eq_false hc15, decide_eq_false hc16, decide_eq_false hc17, decide_eq_false hc18, decide_eq_false hc19, decide_eq_false hc20, decide_eq_false hc21, decide_eq_false hc22, decide_eq_false hc23, decide_eq_true hc24, cond_true, cond_false] at h
          refine Cd.up (Nat.le_succ (d + 1)) (s_workFlow hd cx hJ1 n h1 (fun _ => cx.2.2.1.2.2.2.1 k S _ hJ h4) ?_)
          refine And.intro (bI01 _) ?_
          exact h
        refine And.intro (fun hc25 => ?_) (fun hc25 => ?_)
        · simp only [decide_eq_false hc0, decide_eq_false hc1, decide_eq_false hc2, decide_eq_false hc3, decide_eq_false hc4, decide_eq_false hc5, decide_eq_false hc6, decide_eq_false hc7, decide_eq_false hc8, decide_eq_false hc9, decide_eq_false hc10, decide_eq_false hc11, decide_eq_false hc12, decide_eq_false hc13, decide_eq_false hc14, decide_eq_false hc15, decide_eq_false hc16, decide_eq_false hc17, decide_eq_false hc18, decide_eq_false hc19, decide_eq_false hc20, decide_eq_false hc21, decide_eq_false hc22, decide_eq_false hc23, decide_eq_false hc24, decide_eq_true hc25, cond_true, cond_false] at h
          refine Cd.up (Nat.le_succ (d + 1)) (s_workFlow hd cx hJ1 n h1 (fun _ => cx.2.2.1.2.2.2.1 k S _ hJ h4) ?_)
          refine And.intro (bI01 _) ?_
          exact h
        refine And.intro (fun hc26 => ?_) (fun hc26 => ?_)
        · simp only [decide_eq_false hc0, decide_eq_false hc1, decide_eq_false hc2, decide_eq_false hc3, decide_eq_false hc4, decide_eq_false hc5, decide_eq_false hc6, decide_eq_false hc7, decide_eq_false hc8, decide_eq_false hc9, decide_eq_false hc10, decide_eq_false hc11, decide_eq_false hc12, decide_eq_false hc13, decide_eq_false hc14, decide_eq_false hc15, decide_eq_false hc16, decide_eq_false hc17, decide_eq_false hc18, decide_eq_false hc19, decide_eq_false hc20, decide_eq_false hc21, decide_eq_false hc22, decide_eq_false hc23, decide_eq_false hc24, decide_eq_false hc25, decide_eq_true hc26, cond_true, cond_false] at h
          refine Cd.up (Nat.le_succ (d + 1)) (s_workMove hd cx hJ1 n h1 ?_)
          refine And.intro (bI01 _) ?_
          exact h
        simp only [decide_eq_false hc0, decide_eq_false hc1, decide_eq_false hc2, decide_eq_false hc3, decide_eq_false hc4, decide_eq_false hc5, decide_eq_false hc6, decide_eq_false hc7, decide_eq_false hc8, decide_eq_false hc9, decide_eq_false hc10, decide_eq_false hc11, decide_eq_false hc12, decide_eq_false hc13, decide_eq_false hc14, decide_eq_false hc15, decide_eq_false hc16, decide_eq_false hc17, decide_eq_false hc18, decide_eq_false hc19, decide_eq_false hc20, decide_eq_false hc21, decide_eq_false hc22, decide_eq_false hc23, decide_eq_false hc24, decide_eq_false hc25, decide_eq_false hc26, cond_true, cond_false] at h
        refine Cd.up (Nat.le_succ (d + 1)) (s_workFlow hd cx hJ1 n h1 (fun _ => cx.2.2.1.2.2.2.1 k S _ hJ h4) ?_)
        refine And.intro (bI01 _) ?_
        exact h
      · simp only [decide_eq_false h4, Bool.not_false, cond_true] at h
        refine s_fail (by omega) _ _ ?_
        refine And.intro (Or.inl rfl) ?_
        exact h
    · rw [bI_ne0] at h3
      simp only [h3, cond_true] at h
      refine s_fail (by omega) _ _ ?_
      refine And.intro (Or.inl rfl) ?_
      exact h
end MOVE
