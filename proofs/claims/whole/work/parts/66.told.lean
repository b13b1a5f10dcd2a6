/-! programs stay as they ought to be -/
section AGR
variable {P P' : SP} {n : Nat}
theorem agr_node (x : Int32) : pIsNode (pPre P' n) x = pIsNode (pPre P n) x := rfl
theorem agr_list (hn : n < 2 ^ 31) (h : ∀ j, j < n → pC P' j = pC P j ∧ pL P' j = pL P j) (x : Int32) : pIsList (pPre P' n) x = pIsList (pPre P n) x := by
  unfold pIsList
  rw [agr_node (P := P) (P' := P')]
  cases hx : pIsNode (pPre P n) x
  · rfl
  · have hr := (pPre_node hn).mp hx
    have e := ix_eq x
    show (true && decide (pC P' (ix x) = 10)) = (true && decide (pC P (ix x) = 10))
    rw [(h (ix x) (by omega)).1]
theorem agr_len (hn : n < 2 ^ 31) (h : ∀ j, j < n → pC P' j = pC P j ∧ pL P' j = pL P j) (x : Int32) : pLen (pPre P' n) x = pLen (pPre P n) x := by
  unfold pLen
  rw [agr_list hn h x]
  cases hx : pIsList (pPre P n) x
  · rfl
  · have hr := (pPre_node hn).mp (pIsList_node hx)
    have e := ix_eq x
    show pL P' (ix x) = pL P (ix x)
    rw [(h (ix x) (by omega)).2]
theorem agr_fits (hn : n < 2 ^ 31) (h : ∀ j, j < n → pC P' j = pC P j ∧ pL P' j = pL P j) (code a b c d : Int32) : pFits (pPre P' n) code a b c d = pFits (pPre P n) code a b c d := by
  unfold pFits pFitsT pSizes pIsLN
  simp only [agr_node (P := P) (P' := P'), agr_list hn h, agr_len hn h]
end AGR
theorem pPre_self {P : SP} (hp : pOK P) : pPre P (ix (pN P)) = P := by
  have : nI (ix (pN P)) = pN P := (nI_toI hp.1).symm
  unfold pPre
  rw [this]
theorem pWF_told {P : SP} (hw : pWF P) (hlt : pN P < 80) {code a b c d : Int32} (hf : pFits P code a b c d = true) : pWF (pTold P code a b c d) := by
  obtain ⟨hp, hall⟩ := hw
  have h0 := hp.1
  have h80 := i_lt hlt
  have e80 : (80 : Int32).toInt = 80 := rfl
  have eN : (pN P + 1).toInt = (pN P).toInt + 1 := i_add1 (n := 80) h0 hp.2 (by decide)
  have eix := ix_eq (pN P)
  have hagr : ∀ n, n ≤ ix (pN P) → ∀ j, j < n → pC (pTold P code a b c d) j = pC P j ∧ pL (pTold P code a b c d) j = pL P j := by
    intro n hn j hj
    exact ⟨x_up_ne _ _ (by omega), x_up_ne _ _ (by omega)⟩
  refine ⟨⟨by show 0 ≤ (pN P + 1).toInt; omega, by show (pN P + 1).toInt ≤ 80; omega⟩, ?_⟩
  intro n hn
  have hn : (n : Int) < (pN P + 1).toInt := hn
  by_cases hlast : n = ix (pN P)
  · subst hlast
    have q1 : pC (pTold P code a b c d) (ix (pN P)) = code := x_up_self _ _ _
    have q2 : pa (pTold P code a b c d) (ix (pN P)) = a := x_up_self _ _ _
    have q3 : pb (pTold P code a b c d) (ix (pN P)) = b := x_up_self _ _ _
    have q4 : pc' (pTold P code a b c d) (ix (pN P)) = c := x_up_self _ _ _
    have q5 : pd (pTold P code a b c d) (ix (pN P)) = d := x_up_self _ _ _
    have q6 : pL (pTold P code a b c d) (ix (pN P)) = (bif decide (code = 10) then 1 + pLen (pN P, x_up (pC P) (ix (pN P)) code, x_up (pa P) (ix (pN P)) a, x_up (pb P) (ix (pN P)) b, x_up (pc' P) (ix (pN P)) c, x_up (pd P) (ix (pN P)) d, pL P) a else 0) := x_up_self _ _ _
    rw [q1, q2, q3, q4, q5, q6]
    have e31 : ix (pN P) < 2 ^ 31 := by omega
    refine ⟨?_, ?_⟩
    · rw [agr_fits e31 (hagr _ (Nat.le_refl _)), pPre_self hp]
      exact hf
    · have l1 : pLen (pPre (pTold P code a b c d) (ix (pN P))) a = pLen (pPre P (ix (pN P))) a := agr_len e31 (hagr _ (Nat.le_refl _)) a
      have l2 : pLen (pPre (pN P, x_up (pC P) (ix (pN P)) code, x_up (pa P) (ix (pN P)) a, x_up (pb P) (ix (pN P)) b, x_up (pc' P) (ix (pN P)) c, x_up (pd P) (ix (pN P)) d, pL P) (ix (pN P))) a = pLen (pPre P (ix (pN P))) a := agr_len (P := P) (P' := (pN P, x_up (pC P) (ix (pN P)) code, x_up (pa P) (ix (pN P)) a, x_up (pb P) (ix (pN P)) b, x_up (pc' P) (ix (pN P)) c, x_up (pd P) (ix (pN P)) d, pL P)) e31 (fun j hj => ⟨x_up_ne _ _ (Nat.ne_of_lt hj), rfl⟩) a
      have l3 : pPre (pN P, x_up (pC P) (ix (pN P)) code, x_up (pa P) (ix (pN P)) a, x_up (pb P) (ix (pN P)) b, x_up (pc' P) (ix (pN P)) c, x_up (pd P) (ix (pN P)) d, pL P) (ix (pN P)) = (pN P, x_up (pC P) (ix (pN P)) code, x_up (pa P) (ix (pN P)) a, x_up (pb P) (ix (pN P)) b, x_up (pc' P) (ix (pN P)) c, x_up (pd P) (ix (pN P)) d, pL P) := pPre_self hp
      rw [l3] at l2
      rw [l1, l2]
  · have hn2 : n < ix (pN P) := by omega
    have e31 : n < 2 ^ 31 := by omega
    obtain ⟨a1, a2⟩ := hall n (by omega)
    have q1 : pC (pTold P code a b c d) n = pC P n := x_up_ne _ _ hlast
    have q2 : pa (pTold P code a b c d) n = pa P n := x_up_ne _ _ hlast
    have q3 : pb (pTold P code a b c d) n = pb P n := x_up_ne _ _ hlast
    have q4 : pc' (pTold P code a b c d) n = pc' P n := x_up_ne _ _ hlast
    have q5 : pd (pTold P code a b c d) n = pd P n := x_up_ne _ _ hlast
    have q6 : pL (pTold P code a b c d) n = pL P n := x_up_ne _ _ hlast
    rw [q1, q2, q3, q4, q5, q6, agr_fits e31 (hagr n (by omega)), agr_len e31 (hagr n (by omega))]
    exact ⟨a1, a2⟩
theorem pWF_tell {P : SP} (hw : pWF P) (code a b c d : Int32) : pWF (pTell P code a b c d).2 := by
  unfold pTell
  cases hf : pFits P code a b c d
  · exact hw
  · simp only [Bool.not_true, cond_false]
    by_cases hlt : pN P < 80
    · rw [decide_eq_true hlt]
      exact pWF_told hw hlt hf
    · rw [decide_eq_false hlt]
      exact hw
theorem pWF_forget {P : SP} : pWF (pForget P) := by
  refine ⟨⟨by show 0 ≤ (0 : Int32).toInt; decide, by show (0 : Int32).toInt ≤ 80; decide⟩, ?_⟩
  intro n hn
  have : (n : Int) < (0 : Int32).toInt := hn
  have z : (0 : Int32).toInt = 0 := rfl
  omega
