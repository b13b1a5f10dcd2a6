section TWO
variable {P : SP} {E : Int32 → SS → SO} {J V : Int → SS → Prop} {d : Nat} {dep : Int32}
set_option maxRecDepth 100000 in
set_option maxHeartbeats 1000000 in
theorem s_two_92 (hd : 8 ≤ d) {S : SS} {Q : xQ} (n k : Int32) (a : Int64) (h : Q (some (.int (bI (oTwo P n k a S).1))) (wC P (oTwo P n k a S).2)) : Ev (Cd d) cdX6_workTwo Q 92 [(0, .ref 3), (1, .int n), (2, .int dep), (3, .int (pC P (ix n))), (4, .int k), (5, .long a)] [] (wC P S) := by
  refine Ev.go (Cd.mono d) [] 100 ?_
  unfold oTwo at h
  refine And.intro (fun h1 => ?_) (fun h1 => ?_)
  · simp only [decide_eq_false h1, cond_false] at h
    refine And.intro (fun h2 => ?_) (fun h2 => ?_)
    · simp only [decide_eq_false h2, cond_false] at h
      refine And.intro (fun h3 => ?_) (fun h3 => ?_)
      · rw [lc_0] at h3
        simp only [decide_eq_false h3, cond_false] at h
        refine And.intro h3 ?_
        refine s_giveNumber (by omega) _ ?_
        refine And.intro (Or.inr rfl) ?_
        exact h
      · rw [lc_0] at h3
        simp only [decide_eq_true h3, cond_true] at h
        refine s_fail (by omega) _ _ ?_
        refine And.intro (Or.inl rfl) ?_
        exact h
    · simp only [decide_eq_true h2, cond_true] at h
      refine s_giveSame (by omega) _ _ _ ?_
      refine And.intro (bI01 _) ?_
      exact h
  · simp only [decide_eq_true h1, cond_true] at h
    refine s_giveNumber (by omega) _ ?_
    refine And.intro (Or.inr rfl) ?_
    exact h
theorem oNum20_same {S : SS} {n : Int32} (h : (oNum20 P S n).1 = true) : (oNum20 P S n).2 = S := by
  unfold oNum20 at h ⊢
  cases hz : decide (pC P (ix n) = 20)
  · rw [hz] at h
    exact oNum_same h
  · rfl
set_option maxRecDepth 100000 in
set_option maxHeartbeats 1000000 in
theorem s_two_57 (hd : 8 ≤ d) (cx : CX P E J V d dep) {k : Int} {S : SS} {Q : xQ} (hJ : J k S) (n : Int32) (hn : pIsNode P n = true) (kd : Int32) (a : Int64) (h : Q (some (.int (bI (oAnd (E (pb P (ix n)) S) (fun S2 => oAnd (oNum20 P S2 n) (fun S2 => oTwo P n kd a S2))).1))) (wC P (oAnd (E (pb P (ix n)) S) (fun S2 => oAnd (oNum20 P S2 n) (fun S2 => oTwo P n kd a S2))).2)) : Ev (Cd d) cdX6_workTwo Q 57 [(0, .ref 3), (1, .int n), (2, .int dep), (3, .int (pC P (ix n))), (4, .int kd), (5, .long a)] [] (wC P S) := by
  refine Ev.go (Cd.mono d) [92] 100 ?_
  refine And.intro (cx.node_in hn) ?_
  refine cx.call hJ ?_
  unfold oAnd oNum20 at h
  refine And.intro (fun h1 => ?_) (fun h1 => ?_)
  · rw [bI_eq0] at h1
    simp only [h1, cond_false] at h
    refine And.intro (Or.inl rfl) ?_
    exact h
  · rw [bI_ne0] at h1
    simp only [h1, cond_true] at h
    refine And.intro (fun h2 => ?_) (fun h2 => ?_)
    · simp only [decide_eq_true h2, cond_true] at h
      exact s_two_92 hd n kd a h
    · simp only [decide_eq_false h2, cond_false] at h
      refine s_wantNumber (by omega) _ ?_
      refine And.intro (fun h3 => ?_) (fun h3 => ?_)
      · rw [bI_ne0] at h3
        simp only [h3, cond_true] at h
        exact s_two_92 hd n kd a h
      · rw [bI_eq0] at h3
        simp only [h3, cond_false] at h
        refine And.intro (Or.inl rfl) ?_
        exact h
set_option maxRecDepth 100000 in
set_option maxHeartbeats 1000000 in
theorem s_two_45 (hd : 8 ≤ d) (cx : CX P E J V d dep) {k : Int} {S : SS} {Q : xQ} (hJ : J k S) (n : Int32) (hn : pIsNode P n = true) (h : Q (some (.int (bI (oAnd (E (pb P (ix n)) S) (fun S2 => oAnd (oNum20 P S2 n) (fun S2 => oTwo P n (rK S.2.2) (rA S.2.2) S2))).1))) (wC P (oAnd (E (pb P (ix n)) S) (fun S2 => oAnd (oNum20 P S2 n) (fun S2 => oTwo P n (rK S.2.2) (rA S.2.2) S2))).2)) : Ev (Cd d) cdX6_workTwo Q 45 [(0, .ref 3), (1, .int n), (2, .int dep), (3, .int (pC P (ix n)))] [] (wC P S) := by
  refine Ev.go (Cd.mono d) [57] 100 ?_
  exact s_two_57 hd cx hJ n hn _ _ h
set_option maxRecDepth 100000 in
set_option maxHeartbeats 1000000 in
theorem s_workTwo (hd : 8 ≤ d) (cx : CX P E J V d dep) {k : Int} {S : SS} {Q : xQ} (hJ : J k S) (n : Int32) (hn : pIsNode P n = true) (h : Q (some (.int (bI (eTwo P E n S).1))) (wC P (eTwo P E n S).2)) : Cd (d + 1) 50 [.ref 3, .int n, .int dep] (wC P S) Q := by
  refine Cd.mk cdX6_workTwo 7 2 2 [(0, .ref 3), (1, .int n), (2, .int dep)] rfl rfl rfl rfl 0 ?_
  refine Ev.go (Cd.mono d) [45] 100 ?_
  refine And.intro (cx.node_in hn) ?_
  refine And.intro (cx.node_in hn) ?_
  refine cx.call hJ ?_
  unfold eTwo at h
  rw [oAnd] at h
  refine And.intro (fun h1 => ?_) (fun h1 => ?_)
  · rw [bI_eq0] at h1
    simp only [h1, cond_false] at h
    refine And.intro (Or.inl rfl) ?_
    exact h
  · rw [bI_ne0] at h1
    simp only [h1, cond_true] at h
    rw [oAnd, oNum20] at h
    refine And.intro (fun h2 => ?_) (fun h2 => ?_)
    · simp only [decide_eq_true h2, cond_true] at h
      exact s_two_45 hd cx (cx.pre hJ) n hn h
    · simp only [decide_eq_false h2, cond_false] at h
      refine s_wantNumber (by omega) _ ?_
      refine And.intro (fun h3 => ?_) (fun h3 => ?_)
      · rw [bI_ne0] at h3
        simp only [h3, cond_true] at h
        rw [oNum_same h3] at h ⊢
        exact s_two_45 hd cx (cx.pre hJ) n hn h
      · rw [bI_eq0] at h3
        simp only [h3, cond_false] at h
        refine And.intro (Or.inl rfl) ?_
        exact h
/-! MAKE -/
set_option maxRecDepth 100000 in
set_option maxHeartbeats 1000000 in
theorem s_make_184 (hd : 8 ≤ d) (cx : CX P E J V d dep) {k : Int} {S : SS} {Q : xQ} (hJ : J k S) (n f s u : Int32) (neg : Bool) (hn : pIsNode P n = true) (h : Q (some (.int (bI (oMake P n f s u neg S).1))) (wC P (oMake P n f s u neg S).2)) : Ev (Cd d) cdX6_workMake Q 184 [(0, .ref 3), (1, .int n), (2, .int dep), (3, .int f), (4, .int s), (5, .int u), (6, .int (bI neg))] [] (wC P S) := by
  refine Ev.go (Cd.mono d) [] 100 ?_
  unfold oMake at h
  refine And.intro (fun h1 => ?_) (fun h1 => ?_)
  · rw [bI_eq0] at h1
    simp only [h1, cond_false] at h
    refine And.intro (cx.node_in hn) ?_
    refine s_makeArrays (by omega) (cx.ok hJ) _ _ _ _ ?_
    refine s_giveMade (S := ((hMAs S.1 (pa P (ix n)) f s u).2, S.2)) (by omega) _ _ ?_
    refine And.intro (bI01 _) ?_
    exact h
  · rw [bI_ne0] at h1
    simp only [h1, cond_true] at h
    refine s_fail (by omega) _ _ ?_
    refine And.intro (Or.inl rfl) ?_
    exact h
set_option maxRecDepth 100000 in
set_option maxHeartbeats 1000000 in
theorem s_make_118 (hd : 8 ≤ d) (cx : CX P E J V d dep) {k : Int} {S : SS} {Q : xQ} (hJ : J k S) (n f s : Int32) (neg : Bool) (hn : pIsNode P n = true) (h : Q (some (.int (bI (eMake2 P E n f s neg S).1))) (wC P (eMake2 P E n f s neg S).2)) : Ev (Cd d) cdX6_workMake Q 118 [(0, .ref 3), (1, .int n), (2, .int dep), (3, .int f), (4, .int s), (5, .int (-1)), (6, .int (bI neg))] [] (wC P S) := by
  refine Ev.go (Cd.mono d) [184] 100 ?_
  unfold eMake2 at h
  refine And.intro (cx.node_in hn) ?_
  refine And.intro (fun h1 => ?_) (fun h1 => ?_)
  · simp only [decide_eq_true h1, cond_true] at h
    exact s_make_184 hd cx hJ n f s (-1) neg hn h
  · simp only [decide_eq_false h1, cond_false] at h
    refine And.intro (cx.node_in hn) ?_
    refine cx.call hJ ?_
    rw [oAnd] at h
    refine And.intro (fun h2 => ?_) (fun h2 => ?_)
    · rw [bI_eq0] at h2
      simp only [h2, cond_false] at h
      refine And.intro (Or.inl rfl) ?_
      exact h
    · rw [bI_ne0] at h2
      simp only [h2, cond_true] at h
      refine s_wantNumber (by omega) _ ?_
      rw [oAnd] at h
      refine And.intro (fun h3 => ?_) (fun h3 => ?_)
      · rw [bI_ne0] at h3
        simp only [h3, cond_true] at h
        rw [oNum_same h3] at h ⊢
        refine And.intro (fun h4 => ?_) (fun h4 => ?_)
        · rw [bI_ne0] at h4
          simp only [h4, Bool.true_or] at h
          exact s_make_184 hd cx (cx.pre hJ) n f s _ true hn h
        · rw [bI_eq0] at h4
          simp only [h4, Bool.false_or] at h
          refine And.intro (fun h5 => ?_) (fun h5 => ?_)
          · have h6 : ¬ (rA (E (pd P (ix n)) S).2.2.2).toInt32 < 0 := Int32.not_lt.mpr h5
            rw [decide_eq_false h6] at h
            exact s_make_184 hd cx (cx.pre hJ) n f s _ false hn h
          · have h6 : (rA (E (pd P (ix n)) S).2.2.2).toInt32 < 0 := Int32.not_le.mp h5
            rw [decide_eq_true h6] at h
            exact s_make_184 hd cx (cx.pre hJ) n f s _ true hn h
      · rw [bI_eq0] at h3
        simp only [h3, cond_false] at h
        refine And.intro (Or.inl rfl) ?_
        exact h
set_option maxRecDepth 100000 in
set_option maxHeartbeats 1000000 in
theorem s_make_52 (hd : 8 ≤ d) (cx : CX P E J V d dep) {k : Int} {S : SS} {Q : xQ} (hJ : J k S) (n f : Int32) (neg : Bool) (hn : pIsNode P n = true) (h : Q (some (.int (bI (eMake1 P E n f neg S).1))) (wC P (eMake1 P E n f neg S).2)) : Ev (Cd d) cdX6_workMake Q 52 [(0, .ref 3), (1, .int n), (2, .int dep), (3, .int f), (4, .int (-1)), (5, .int (-1)), (6, .int (bI neg))] [] (wC P S) := by
  refine Ev.go (Cd.mono d) [118] 100 ?_
  unfold eMake1 at h
  refine And.intro (cx.node_in hn) ?_
  refine And.intro (fun h1 => ?_) (fun h1 => ?_)
  · simp only [decide_eq_true h1, cond_true] at h
    exact s_make_118 hd cx hJ n f (-1) neg hn h
  · simp only [decide_eq_false h1, cond_false] at h
    refine And.intro (cx.node_in hn) ?_
    refine cx.call hJ ?_
    rw [oAnd] at h
    refine And.intro (fun h2 => ?_) (fun h2 => ?_)
    · rw [bI_eq0] at h2
      simp only [h2, cond_false] at h
      refine And.intro (Or.inl rfl) ?_
      exact h
    · rw [bI_ne0] at h2
      simp only [h2, cond_true] at h
      refine s_wantNumber (by omega) _ ?_
      rw [oAnd] at h
      refine And.intro (fun h3 => ?_) (fun h3 => ?_)
      · rw [bI_ne0] at h3
        simp only [h3, cond_true] at h
        rw [oNum_same h3] at h ⊢
        refine And.intro (fun h4 => ?_) (fun h4 => ?_)
        · rw [bI_ne0] at h4
          simp only [h4, Bool.true_or] at h
          exact s_make_118 hd cx (cx.pre hJ) n f _ true hn h
        · rw [bI_eq0] at h4
          simp only [h4, Bool.false_or] at h
          refine And.intro (fun h5 => ?_) (fun h5 => ?_)
          · have h6 : ¬ (rA (E (pc' P (ix n)) S).2.2.2).toInt32 < 0 := Int32.not_lt.mpr h5
            rw [decide_eq_false h6] at h
            exact s_make_118 hd cx (cx.pre hJ) n f _ false hn h
          · have h6 : (rA (E (pc' P (ix n)) S).2.2.2).toInt32 < 0 := Int32.not_le.mp h5
            rw [decide_eq_true h6] at h
            exact s_make_118 hd cx (cx.pre hJ) n f _ true hn h
      · rw [bI_eq0] at h3
        simp only [h3, cond_false] at h
        refine And.intro (Or.inl rfl) ?_
        exact h
set_option maxRecDepth 100000 in
set_option maxHeartbeats 1000000 in
theorem s_workMake (hd : 8 ≤ d) (cx : CX P E J V d dep) {k : Int} {S : SS} {Q : xQ} (hJ : J k S) (n : Int32) (hn : pIsNode P n = true) (h : Q (some (.int (bI (eMake P E n S).1))) (wC P (eMake P E n S).2)) : Cd (d + 1) 51 [.ref 3, .int n, .int dep] (wC P S) Q := by
  refine Cd.mk cdX6_workMake 7 2 2 [(0, .ref 3), (1, .int n), (2, .int dep)] rfl rfl rfl rfl 0 ?_
  refine Ev.go (Cd.mono d) [52] 100 ?_
  refine And.intro (cx.node_in hn) ?_
  refine cx.call hJ ?_
  unfold eMake at h
  rw [oAnd] at h
  refine And.intro (fun h1 => ?_) (fun h1 => ?_)
  · rw [bI_eq0] at h1
    simp only [h1, cond_false] at h
    refine And.intro (Or.inl rfl) ?_
    exact h
  · rw [bI_ne0] at h1
    simp only [h1, cond_true] at h
    refine s_wantNumber (by omega) _ ?_
    rw [oAnd] at h
    refine And.intro (fun h3 => ?_) (fun h3 => ?_)
    · rw [bI_ne0] at h3
      simp only [h3, cond_true] at h
      rw [oNum_same h3] at h ⊢
      refine And.intro (fun h5 => ?_) (fun h5 => ?_)
      · have h6 : ¬ (rA (E (pb P (ix n)) S).2.2.2).toInt32 < 0 := Int32.not_lt.mpr h5
        rw [decide_eq_false h6] at h
        exact s_make_52 hd cx (cx.pre hJ) n _ false hn h
      · have h6 : (rA (E (pb P (ix n)) S).2.2.2).toInt32 < 0 := Int32.not_le.mp h5
        rw [decide_eq_true h6] at h
        exact s_make_52 hd cx (cx.pre hJ) n _ true hn h
    · rw [bI_eq0] at h3
      simp only [h3, cond_false] at h
      refine And.intro (Or.inl rfl) ?_
      exact h
end TWO
