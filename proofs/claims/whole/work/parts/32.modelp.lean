/-! the program is as it was told: each NODE fits those before it -/
def pPre (P : SP) (n : Nat) : SP := (nI n, P.2)
def pWF (P : SP) : Prop := pOK P ∧ ∀ n : Nat, (n : Int) < (pN P).toInt → pFits (pPre P n) (pC P n) (pa P n) (pb P n) (pc' P n) (pd P n) = true ∧ pL P n = (bif decide (pC P n = 10) then 1 + pLen (pPre P n) (pa P n) else 0)
theorem pPre_node {P : SP} {n : Nat} {x : Int32} (hn : n < 2 ^ 31) : pIsNode (pPre P n) x = true ↔ 0 ≤ x.toInt ∧ x.toInt < n := by
  simp only [pIsNode, Bool.and_eq_true, Bool.not_eq_true', decide_eq_false_iff_not]
  show (¬ x < 0 ∧ ¬ nI n ≤ x) ↔ _
  rw [Int32.lt_iff_toInt_lt, Int32.le_iff_toInt_le, nI_toInt hn]
  have : (0 : Int32).toInt = 0 := rfl
  omega
theorem pIsNode_iff {P : SP} {x : Int32} : pIsNode P x = true ↔ 0 ≤ x.toInt ∧ x.toInt < (pN P).toInt := by
  simp only [pIsNode, Bool.and_eq_true, Bool.not_eq_true', decide_eq_false_iff_not]
  rw [Int32.lt_iff_toInt_lt, Int32.le_iff_toInt_le]
  have : (0 : Int32).toInt = 0 := rfl
  omega
theorem pFits_10 {P : SP} {a b c d : Int32} : pFits P 10 a b c d = (pIsLN P a && pIsNode P b) := rfl
/-- a LIST's own before: NONE, or a LIST that stands before it; its length -/
theorem pWF_list {P : SP} (hw : pWF P) {x : Int32} (hx : pIsList P x = true) : pIsLN P (pa P (ix x)) = true ∧ (pa P (ix x) = -1 ∨ (0 ≤ (pa P (ix x)).toInt ∧ (pa P (ix x)).toInt < x.toInt)) ∧ pLen P x = 1 + pLen P (pa P (ix x)) ∧ pIsNode P (pb P (ix x)) = true ∧ (pb P (ix x)).toInt < x.toInt := by
  have hnode := pIsList_node hx
  have hc : pC P (ix x) = 10 := by
    simp only [pIsList, Bool.and_eq_true, decide_eq_true_eq] at hx
    exact hx.2
  have hr := pIsNode_iff.mp hnode
  have hix : ((ix x : Nat) : Int) = x.toInt := by rw [ix_eq]; omega
  obtain ⟨h1, h2⟩ := hw.2 (ix x) (by omega)
  have h31 : ix x < 2 ^ 31 := ix_lt x
  rw [hc, pFits_10] at h1
  rw [decide_eq_true hc] at h2
  have h3 := Bool.and_eq_true_iff.mp h1
  have hb := (pPre_node h31).mp h3.2
  have hlen : ∀ y : Int32, pIsLN (pPre P (ix x)) y = true → pIsLN P y = true ∧ (y = -1 ∨ (0 ≤ y.toInt ∧ y.toInt < x.toInt)) ∧ pLen P y = pLen (pPre P (ix x)) y := by
    intro y hy
    unfold pIsLN at hy ⊢
    by_cases hm : y = -1
    · subst hm
      have e1 : (-1 : Int32).toInt = -1 := rfl
      have f1 : pIsList P (-1) = false := by
        cases hz : pIsList P (-1)
        · rfl
        · have := pIsNode_iff.mp (pIsList_node hz); omega
      have f2 : pIsList (pPre P (ix x)) (-1) = false := by
        cases hz : pIsList (pPre P (ix x)) (-1)
        · rfl
        · have := (pPre_node h31).mp (pIsList_node hz); omega
      refine ⟨by rw [decide_eq_true rfl, Bool.true_or], Or.inl rfl, ?_⟩
      unfold pLen
      rw [f1, f2]
      rfl
    · rw [decide_eq_false hm, Bool.false_or] at hy
      have h4 := (pPre_node h31).mp (pIsList_node hy)
      have h5 : pIsNode P y = true := pIsNode_iff.mpr ⟨h4.1, by omega⟩
      have h6 : pIsList P y = true := by
        simp only [pIsList, Bool.and_eq_true] at hy ⊢
        exact ⟨h5, hy.2⟩
      refine ⟨by rw [h6, Bool.or_true], Or.inr ⟨h4.1, by omega⟩, ?_⟩
      unfold pLen
      rw [h6, hy]
      rfl
  obtain ⟨g1, g2, g3⟩ := hlen _ h3.1
  refine ⟨g1, g2, ?_, pIsNode_iff.mpr ⟨hb.1, by omega⟩, by omega⟩
  rw [g3]
  unfold pLen
  rw [hx]
  exact h2
theorem pLN_cases {P : SP} {x : Int32} (h : pIsLN P x = true) : x = -1 ∨ pIsList P x = true := by
  unfold pIsLN at h
  rcases Bool.or_eq_true_iff.mp h with z | z
  · exact Or.inl (of_decide_eq_true z)
  · exact Or.inr z
theorem pLen_none (P : SP) : pLen P (-1) = 0 := by
  have e1 : (-1 : Int32).toInt = -1 := rfl
  unfold pLen
  cases hz : pIsList P (-1)
  · rfl
  · have := pIsNode_iff.mp (pIsList_node hz); omega
set_option maxRecDepth 100000 in
set_option maxHeartbeats 1000000 in
theorem m_many_loop {d : Nat} {P : SP} {S : SS} {m : MS} {Q : xQ} (hw : pWF P) (l : Int32) (h : Q (some (.int (pLen P l))) (wM P S m)) : ∀ (f : Nat) (n x : Int32), (x = -1 ∨ x.toInt < f) → pIsLN P x = true → n + pLen P x = pLen P l → Ev (Cd d) cdX8_many Q 4 [(0, .ref 0), (1, .int l), (2, .int n), (3, .int x)] [] (wM P S m)
  | 0, n, x, hf, hx, hn => by
    refine Ev.go (Cd.mono d) [4] 100 ?_
    refine And.intro (fun h1 => ?_) (fun h1 => ?_)
    · rw [h1, pLen_none, Int32.add_zero] at hn
      rw [← hn] at h
      exact h
    · rcases hf with z | z
      · exact absurd z h1
      · rcases pLN_cases hx with y | y
        · exact absurd y h1
        · have := pIsNode_iff.mp (pIsList_node y); omega
  | f + 1, n, x, hf, hx, hn => by
    refine Ev.go (Cd.mono d) [4] 100 ?_
    refine And.intro (fun h1 => ?_) (fun h1 => ?_)
    · rw [h1, pLen_none, Int32.add_zero] at hn
      rw [← hn] at h
      exact h
    · rcases pLN_cases hx with y | y
      · exact absurd y h1
      · obtain ⟨g1, g2, g3, g4⟩ := pWF_list hw y
        refine And.intro (pIsNode_in hw.1 (pIsList_node y)) ?_
        rcases hf with z | z
        · exact absurd z h1
        · exact m_many_loop hw l h f (n + 1) (pa P (ix x)) (g2.elim Or.inl (fun q => Or.inr (by omega))) g1 (by rw [← hn, g3, Int32.add_assoc])
set_option maxRecDepth 100000 in
set_option maxHeartbeats 1000000 in
theorem m_many {D : Nat} (hD : 1 ≤ D) {P : SP} {S : SS} {m : MS} {Q : xQ} (hw : pWF P) (l : Int32) (hl : pIsLN P l = true) (h : Q (some (.int (pLen P l))) (wM P S m)) : Cd D 117 [.ref 0, .int l] (wM P S m) Q := by
  refine Cd.up hD ?_
  refine Cd.mk cdX8_many 4 4 1 [(0, .ref 0), (1, .int l)] rfl rfl rfl rfl 0 ?_
  refine Ev.go (Cd.mono 0) [4] 100 ?_
  exact m_many_loop hw l h (2 ^ 31) 0 l (Or.inr (by have := (i_rng l).2; omega)) hl (Int32.zero_add _)
/-! nodeOf -/
theorem pLen_rng {P : SP} (hw : pWF P) : ∀ (f : Nat) (x : Int32), pIsList P x = true → x.toInt < f → 1 ≤ (pLen P x).toInt ∧ (pLen P x).toInt ≤ x.toInt + 1
  | 0, x, hx, hf => by have := pIsNode_iff.mp (pIsList_node hx); omega
  | f + 1, x, hx, hf => by
    obtain ⟨g1, g2, g3, g4⟩ := pWF_list hw hx
    have h1 : (1 : Int32).toInt = 1 := rfl
    have h80 := hw.1.2
    have hr := pIsNode_iff.mp (pIsList_node hx)
    rcases pLN_cases g1 with y | y
    · rw [g3, y, pLen_none]
      have : ((1 : Int32) + 0).toInt = 1 := rfl
      omega
    · have hr2 := pIsNode_iff.mp (pIsList_node y)
      have hlt : (pa P (ix x)).toInt < x.toInt := by
        rcases g2 with q | q
        · have e1 : (-1 : Int32).toInt = -1 := rfl
          rw [q] at hr2
          omega
        · exact q.2
      have ih := pLen_rng hw f _ y (by omega)
      rw [g3, i_add (by omega) (by omega)]
      omega
theorem pAt_list {P : SP} (hw : pWF P) : ∀ (k : Nat) (x : Int32), pIsList P x = true → (k : Int) < (pLen P x).toInt → pIsList P (pAt P k x) = true ∧ (pLen P (pAt P k x)).toInt = (pLen P x).toInt - k
  | 0, x, hx, hk => ⟨hx, by simp [pAt]⟩
  | k + 1, x, hx, hk => by
    obtain ⟨g1, g2, g3, g4⟩ := pWF_list hw hx
    have h1 : (1 : Int32).toInt = 1 := rfl
    have h80 := hw.1.2
    have hr := pIsNode_iff.mp (pIsList_node hx)
    unfold pAt
    rw [hx]
    simp only [cond_true]
    rcases pLN_cases g1 with y | y
    · rw [g3, y, pLen_none] at hk
      have : ((1 : Int32) + 0).toInt = 1 := rfl
      omega
    · have hr2 := pIsNode_iff.mp (pIsList_node y)
      have hq := pLen_rng hw 80 _ y (by omega)
      have e : (pLen P x).toInt = 1 + (pLen P (pa P (ix x))).toInt := by rw [g3, i_add (by omega) (by omega)]; omega
      obtain ⟨z1, z2⟩ := pAt_list hw k _ y (by omega)
      exact ⟨z1, by omega⟩
set_option maxRecDepth 100000 in
set_option maxHeartbeats 1000000 in
theorem m_nodeOf_loop {d : Nat} {P : SP} {S : SS} {m : MS} {Q : xQ} (hw : pWF P) (l i : Int32) (hi : 0 ≤ i.toInt) : ∀ (k : Nat) (x b : Int32), pIsList P x = true → (b.toInt - i.toInt).toNat = k → b.toInt + 1 = (pLen P x).toInt → i.toInt ≤ b.toInt → Q (some (.int (pEl P (pAt P k x)))) (wM P S m) → Ev (Cd d) cdX8_nodeOf Q 11 [(0, .ref 0), (1, .int l), (2, .int i), (3, .int x), (4, .int b)] [] (wM P S m)
  | 0, x, b, hx, hk, hb, hib, h => by
    refine Ev.go (Cd.mono d) [11] 100 ?_
    refine And.intro (fun _ => ?_) (fun h1 => ?_)
    · refine And.intro (pIsNode_in hw.1 (pIsList_node hx)) ?_
      have e : pEl P (pAt P 0 x) = pb P (ix x) := by
        unfold pEl pAt
        rw [hx]
        rfl
      rw [e] at h
      exact h
    · have := i_not_le h1
      omega
  | k + 1, x, b, hx, hk, hb, hib, h => by
    refine Ev.go (Cd.mono d) [11] 100 ?_
    refine And.intro (fun h1 => ?_) (fun h1 => ?_)
    · have := i_le h1
      omega
    · refine And.intro (pIsNode_in hw.1 (pIsList_node hx)) ?_
      have h3 := i_not_le h1
      have e : (-1 : Int32).toInt = -1 := rfl
      have := i_rng b
      have e2 : (b + -1).toInt = b.toInt - 1 := by rw [i_add] <;> omega
      obtain ⟨z1, z2⟩ := pAt_list hw 1 x hx (by omega)
      have e3 : pAt P 1 x = pa P (ix x) := by
        unfold pAt
        rw [hx]
        rfl
      rw [e3] at z1 z2
      refine m_nodeOf_loop hw l i hi k (pa P (ix x)) (b + -1) z1 (by omega) (by omega) (by omega) ?_
      rw [pAt, hx] at h
      exact h
set_option maxRecDepth 100000 in
set_option maxHeartbeats 1000000 in
theorem m_nodeOf {D : Nat} (hD : 2 ≤ D) {P : SP} {S : SS} {m : MS} {Q : xQ} (hw : pWF P) (l i : Int32) (hl : pIsList P l = true) (hi : 0 ≤ i.toInt) (hil : i.toInt < (pLen P l).toInt) (h : Q (some (.int (pNth P l i))) (wM P S m)) : Cd D 118 [.ref 0, .int l, .int i] (wM P S m) Q := by
  refine Cd.up hD ?_
  refine Cd.mk cdX8_nodeOf 5 4 2 [(0, .ref 0), (1, .int l), (2, .int i)] rfl rfl rfl rfl 0 ?_
  refine Ev.go (Cd.mono 1) [11] 100 ?_
  have h1 : pIsLN P l = true := by unfold pIsLN; rw [hl, Bool.or_true]
  have e1 : (1 : Int32).toInt = 1 := rfl
  have := (i_rng (pLen P l)).2
  have e2 : (pLen P l - 1).toInt = (pLen P l).toInt - 1 := by rw [i_sub] <;> omega
  refine m_many (by decide) hw l h1 ?_
  exact m_nodeOf_loop hw l i hi _ l (pLen P l - 1) hl rfl (by omega) (by omega) h
