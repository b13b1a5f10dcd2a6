/-! what keeps states as they ought to be -/
theorem vOK_up {h h' : SH} (hle : (hTh h).toInt ≤ (hTh h').toInt) {k : Int32} {a : Int64} (hv : vOK h k a) : vOK h' k a := by
  rcases hv with x | x | ⟨x, t, ht, e⟩
  · exact Or.inl x
  · exact Or.inr (Or.inl x)
  · exact Or.inr (Or.inr ⟨x, t, by omega, e⟩)
section INV
variable {G : Int → UInt64 → Prop} {κ : Int} {S : SS}
theorem Inv_heap {h' : SH} (hI : Inv G κ S) (hi : hInv h') (hle : (hTh S.1).toInt ≤ (hTh h').toInt) (hG : ∀ j, G (κ + (rN S.2.2).toInt) (hRe h' j)) : Inv G κ (h', S.2) := by
  obtain ⟨a, b, c, e, f, g, i, j, l⟩ := hI
  exact ⟨hi, fun q => vOK_up hle (b q), fun q => vOK_up hle (c q), e, f, g, i, j, hG⟩
theorem Inv_give (hI : Inv G κ S) (k : Int32) (a : Int64) : Inv G κ (sGive S k a) := hI
theorem Inv_fail (hI : Inv G κ S) (c n : Int32) : Inv G κ (sFail S c n) := hI
theorem Inv_held {x : Int32} (hI : Inv G κ S) (hx : 0 ≤ x.toInt ∧ x.toInt ≤ 1600) : Inv G κ (sHeld S x) := by
  obtain ⟨a, b, c, e, f, g, i, j, l⟩ := hI
  exact ⟨a, b, c, hx, f, g, i, j, l⟩
theorem i_add1 {a : Int32} {n : Int} (h0 : 0 ≤ a.toInt) (h : a.toInt ≤ n) (hn : n < 2147483647) : (a + 1).toInt = a.toInt + 1 :=
  i_add (a := a) (b := 1) (by show (_ : Int) ≤ a.toInt + 1; omega) (by show a.toInt + 1 < (_ : Int); omega)
theorem Inv_work (hI : Inv G κ S) (hn : rN S.2.2 < 3000) : Inv G (κ - 1) (sWork S) := by
  obtain ⟨a, b, c, e, f, g, i, j, l⟩ := hI
  have h1 := i_lt hn
  have e3 : (3000 : Int32).toInt = 3000 := rfl
  have e1 : (rN S.2.2 + 1).toInt = (rN S.2.2).toInt + 1 := i_add1 (n := 3000) (by omega) g (by omega)
  refine ⟨a, b, c, e, ⟨f.1, ?_⟩, ?_, i, ⟨?_, by have := j.2; omega⟩, ?_⟩
  · show (rT S.2.2).toInt ≤ (rN S.2.2 + 1).toInt
    omega
  · show (rN S.2.2 + 1).toInt ≤ 3000
    omega
  · show 1 ≤ κ - 1 + (rN S.2.2 + 1).toInt
    have := j.1
    omega
  · intro q
    show G (κ - 1 + (rN S.2.2 + 1).toInt) _
    rw [e1, show κ - 1 + ((rN S.2.2).toInt + 1) = κ + (rN S.2.2).toInt by omega]
    exact l q
theorem Inv_note (hI : Inv G κ S) (hn : rN S.2.2 < 3000) (x : Int32) : Inv G (κ - 1) (sNote (sWork S) x) := by
  have hw := Inv_work hI hn
  obtain ⟨a, b, c, e, f, g, i, j, l⟩ := hw
  have f0 := hI.2.2.2.2.1
  have h1 := i_lt hn
  have e3 : (3000 : Int32).toInt = 3000 := rfl
  have e1 : (rN S.2.2 + 1).toInt = (rN S.2.2).toInt + 1 := i_add1 (n := 3000) (by omega) hI.2.2.2.2.2.1 (by omega)
  have e2 : (rT S.2.2 + 1).toInt = (rT S.2.2).toInt + 1 := i_add1 (n := 3000) (by omega) (by omega) (by omega)
  refine ⟨a, b, c, e, ⟨?_, ?_⟩, g, i, j, l⟩
  · show 0 ≤ (rT S.2.2 + 1).toInt
    omega
  · show (rT S.2.2 + 1).toInt ≤ (rN S.2.2 + 1).toInt
    omega
theorem Inv_up (hI : Inv G (κ - 1) S) (go : GO G) (hk : κ ≤ gB) : Inv G κ S := by
  obtain ⟨a, b, c, e, f, g, i, j, l⟩ := hI
  exact ⟨a, b, c, e, f, g, i, ⟨by omega, hk⟩, fun q => go.2.2.1 _ _ _ (l q) (by omega)⟩
theorem all_up {p : Nat → Prop} {α β : Type} {f : Nat → α} {g : Nat → β} {r : α → β → Prop} (h : ∀ j, r (f j) (g j)) (i : Nat) {x : α} {y : β} (hxy : r x y) : ∀ j, r (x_up f i x j) (x_up g i y j) := by
  intro j
  unfold x_up
  by_cases hj : j = i
  · rw [if_pos hj, if_pos hj]; exact hxy
  · rw [if_neg hj, if_neg hj]; exact h j
theorem Inv_var {v k : Int32} {x : Int64} (hI : Inv G κ S) (hv : vOK S.1 k x) : Inv G κ (sVar S v k x) := by
  unfold sVar
  cases isVar v
  · exact hI
  · obtain ⟨a, b, c, e, f, g, i, j, l⟩ := hI
    exact ⟨a, all_up (p := fun _ => True) (r := fun k x => vOK S.1 k x) b _ hv, c, e, f, g, i, j, l⟩
theorem Inv_hold (hI : Inv G κ S) (hv : vOK S.1 (rK S.2.2) (rA S.2.2)) (hh : vH S.2.1 < 1600) : Inv G κ (sHold S) := by
  obtain ⟨a, b, c, e, f, g, i, j, l⟩ := hI
  have h1 := i_lt hh
  have e3 : (1600 : Int32).toInt = 1600 := rfl
  have e1 : (vH S.2.1 + 1).toInt = (vH S.2.1).toInt + 1 := i_add1 (n := 1600) e.1 e.2 (by omega)
  refine ⟨a, b, all_up (p := fun _ => True) (r := fun k x => vOK S.1 k x) c _ hv, ⟨?_, ?_⟩, f, g, i, j, l⟩
  · show 0 ≤ (vH S.2.1 + 1).toInt
    omega
  · show (vH S.2.1 + 1).toInt ≤ 1600
    omega
theorem Inv_take {P : SP} {n : Int32} (hI : Inv G κ S) (h : (oTake P S n).1 = true) : Inv G κ (oTake P S n).2 := by
  unfold oTake at h ⊢
  cases h1 : decide (rF S.2.2 = 10)
  · rw [h1] at h
    cases h2 : decide (rC S.2.2 < 40)
    · rw [h2] at h; cases h
    · have h3 := i_lt (of_decide_eq_true h2)
      have e3 : (40 : Int32).toInt = 40 := rfl
      have hc : Inv G κ (sCatch S) := by
        obtain ⟨a, b, c, e, f, g, i, j, l⟩ := hI
        have e1 : (rC S.2.2 + 1).toInt = (rC S.2.2).toInt + 1 := i_add1 (n := 40) i.1 i.2 (by omega)
        refine ⟨a, b, c, e, f, g, ⟨?_, ?_⟩, j, l⟩
        · show 0 ≤ (rC S.2.2 + 1).toInt
          have := i.1
          omega
        · show (rC S.2.2 + 1).toInt ≤ 40
          omega
      exact Inv_fail (Inv_var hc (Or.inl rfl)) 0 (-1)
  · rw [h1] at h; cases h
end INV
/-! heaps -/
def hSetAR (h : SH) (am : Nat → Int64) (re : Nat → UInt64) : SH := (h.1, h.2.1, h.2.2.1, h.2.2.2.1, h.2.2.2.2.1, am, re)
theorem hInv_AR {h : SH} {am : Nat → Int64} {re : Nat → UInt64} (hI : hInv h) (hz : ∀ j : Nat, (hEl h).toInt ≤ j → am j = hAm h j ∧ re j = hRe h j) (hr : ∀ t : Nat, (t : Int) < (hTh h).toInt → ¬ hLe h t = -1 → 24 ≤ (hTy h t).toInt → ∀ i : Nat, (i : Int) < (hLe h t).toInt → am (ix (hSt h t) + i) = hAm h (ix (hSt h t) + i) ∨ am (ix (hSt h t) + i) = -1 ∨ ∃ u : Nat, (u : Int) < (hTh h).toInt ∧ am (ix (hSt h t) + i) = lN u) : hInv (hSetAR h am re) := by
  obtain ⟨h1, h2, h3, h4, h5⟩ := hI
  refine ⟨h1, h2, h3, ?_, ?_⟩
  · intro j hj
    have := hz j hj
    have := h4 j hj
    show am j = 0 ∧ re j = _
    rw [(hz j hj).1, (hz j hj).2]
    exact this
  · intro t ht hl hty i hi
    rcases hr t ht hl hty i hi with x | x
    · show am (ix (hSt h t) + i) = -1 ∨ ∃ u : Nat, (u : Int) < (hTh h).toInt ∧ am (ix (hSt h t) + i) = lN u
      rw [x]
      exact h5 t ht hl hty i hi
    · exact x
/-- places of two arrays are apart -/
theorem place_eq {h : SH} (hI : hInv h) {t u : Nat} (ht : (t : Int) < (hTh h).toInt) (hu : (u : Int) < (hTh h).toInt) (hl : ¬ hLe h t = -1) (hl' : ¬ hLe h u = -1) {i j : Nat} (hi : (i : Int) < (hLe h t).toInt) (hj : (j : Int) < (hLe h u).toInt) (e : ix (hSt h t) + i = ix (hSt h u) + j) : t = u := by
  have ha := hI.2.2.1
  have f1 := hI.1.2.2.2.2 t ht hl
  have f2 := hI.1.2.2.2.2 u hu hl'
  rw [ix_eq, ix_eq] at e
  rcases Nat.lt_trichotomy t u with x | x | x
  · have := ha t u x hu hl hl'
    omega
  · exact x
  · have := ha u t x ht hl' hl
    omega
/-- one place of an array -/
theorem hInv_at {h : SH} (hI : hInv h) {t : Nat} (ht : (t : Int) < (hTh h).toInt) (hl : ¬ hLe h t = -1) {i : Nat} (hi : (i : Int) < (hLe h t).toInt) (v : Int64) (r : Nat → UInt64) (hr : ∀ j : Nat, (hEl h).toInt ≤ j → r j = hRe h j) (hv : 24 ≤ (hTy h t).toInt → v = -1 ∨ ∃ u : Nat, (u : Int) < (hTh h).toInt ∧ v = lN u) : hInv (hSetAR h (x_up (hAm h) (ix (hSt h t) + i) v) r) := by
  have f1 := hI.1.2.2.2.2 t ht hl
  refine hInv_AR hI ?_ ?_
  · intro j hj
    refine ⟨x_up_ne _ _ ?_, hr j hj⟩
    rw [ix_eq]
    omega
  · intro u hu hl' hty j hj
    by_cases e : ix (hSt h u) + j = ix (hSt h t) + i
    · have := place_eq hI hu ht hl' hl hj hi e
      subst this
      rw [e, x_up_self]
      exact Or.inr (hv hty)
    · rw [x_up_ne _ _ e]
      exact Or.inl rfl
theorem hInv_mk {h : SH} (hI : hInv h) {t l : Int32} (hT : hTh h < 400) (hl : (l = -1 ∧ tIsInst t = true) ∨ (tIsArr t = true ∧ 0 ≤ l.toInt ∧ (hEl h).toInt + l.toInt ≤ 4000)) : hInv (uMk h t l) ∧ (hTh (uMk h t l)).toInt = (hTh h).toInt + 1 := by
  obtain ⟨h1, h2, h3, h4, h5⟩ := hI
  have a1 := h1.1
  have a2 := i_lt hT
  have e400 : (400 : Int32).toInt = 400 := rfl
  have a3 := h1.2.2.1
  have a4 := h1.2.2.2.1
  have eTh : (hTh h + 1).toInt = (hTh h).toInt + 1 := i_add1 (n := 400) a1 (by omega) (by omega)
  have hix : ((ix (hTh h) : Nat) : Int) = (hTh h).toInt := by rw [ix_eq]; omega
  have hixE : ((ix (hEl h) : Nat) : Int) = (hEl h).toInt := by rw [ix_eq]; omega
  have hm1 : (-1 : Int32).toInt = -1 := rfl
  have hl2 : l = -1 ∨ 0 ≤ l.toInt := by rcases hl with x | x; exact Or.inl x.1; exact Or.inr x.2.1
  have hlen : ((ix l : Nat) : Int) = if l = -1 then 0 else l.toInt := by
    rcases hl2 with x | x
    · rw [if_pos x, x]; rfl
    · rw [if_neg (fun y => by rw [y, hm1] at x; omega), ix_eq]; omega
  have hroom : (hEl h).toInt + ((ix l : Nat) : Int) ≤ 4000 := by
    rcases hl with x | x
    · rw [hlen, if_pos x.1]; omega
    · rw [ix_eq]; omega
  have eEl : (hEl h + (bif decide (l ≤ 0) then 0 else l)).toInt = (hEl h).toInt + ((ix l : Nat) : Int) := by
    by_cases z : l ≤ 0
    · have z2 := i_le z
      have z0 : (0 : Int32).toInt = 0 := rfl
      have : ix l = 0 := by rw [ix_eq]; omega
      rw [decide_eq_true z, this]
      show (hEl h + 0).toInt = _
      rw [Int32.add_zero]
      omega
    · have z2 := i_not_le z
      have z0 : (0 : Int32).toInt = 0 := rfl
      have : ((ix l : Nat) : Int) = l.toInt := by rw [ix_eq]; omega
      rw [decide_eq_false z, this]
      show (hEl h + l).toInt = _
      exact i_add (by omega) (by omega)
  have hold : ∀ u : Nat, (u : Int) < (hTh h).toInt → u ≠ ix (hTh h) := fun u hu => by omega
  have hnew : ∀ u : Nat, (u : Int) < (hTh (uMk h t l)).toInt → (u : Int) < (hTh h).toInt ∨ u = ix (hTh h) := fun u hu => by
    have hu : (u : Int) < (hTh h + 1).toInt := hu
    omega
  have fV : ∀ (v : Int64) (n j : Nat), (j < ix (hEl h) ∨ ix (hEl h) + n ≤ j) → fillV (hAm h) (ix (hEl h)) v n j = hAm h j := by
    intro v n
    induction n with
    | zero => intro j _; rfl
    | succ n ih =>
      intro j hj
      unfold fillV
      rw [x_up_ne _ _ (by omega)]
      exact ih j (by omega)
  have fV1 : ∀ (v : Int64) (n j : Nat), j < n → fillV (hAm h) (ix (hEl h)) v n (ix (hEl h) + j) = v := by
    intro v n
    induction n with
    | zero => intro j hj; omega
    | succ n ih =>
      intro j hj
      unfold fillV
      by_cases e : j = n
      · rw [e, x_up_self]
      · rw [x_up_ne _ _ (by omega)]
        exact ih j (by omega)
  have fR : fillR (hRe h) (ix (hEl h)) (ix l) = hRe h := fillR_same (fun j hj => (h4 j (by omega)).2) _
  refine ⟨⟨⟨?_, ?_, ?_, ?_, ?_⟩, ?_, ?_, ?_, ?_⟩, eTh⟩
  · show 0 ≤ (hTh h + 1).toInt
    omega
  · show (hTh h + 1).toInt ≤ 400
    omega
  · show 0 ≤ (hEl h + (bif decide (l ≤ 0) then 0 else l)).toInt
    omega
  · show (hEl h + (bif decide (l ≤ 0) then 0 else l)).toInt ≤ 4000
    omega
  · intro u hu hlu
    show 0 ≤ (x_up (hSt h) (ix (hTh h)) (hEl h) u).toInt ∧ 0 ≤ (x_up (hLe h) (ix (hTh h)) l u).toInt ∧ (x_up (hSt h) (ix (hTh h)) (hEl h) u).toInt + (x_up (hLe h) (ix (hTh h)) l u).toInt ≤ (hEl h + (bif decide (l ≤ 0) then 0 else l)).toInt
    have hlu : ¬ x_up (hLe h) (ix (hTh h)) l u = -1 := hlu
    rcases hnew u hu with x | x
    · have y := hold u x
      rw [x_up_ne _ _ y] at hlu ⊢
      rw [x_up_ne _ _ y]
      have := h1.2.2.2.2 u x hlu
      omega
    · subst x
      rw [x_up_self] at hlu ⊢
      rw [x_up_self]
      rw [if_neg hlu] at hlen
      rcases hl2 with x | x
      · exact absurd x hlu
      · omega
  · intro u hu
    show tIsType (x_up (hTy h) (ix (hTh h)) t u) = true ∧ (x_up (hLe h) (ix (hTh h)) l u = -1 → tIsInst (x_up (hTy h) (ix (hTh h)) t u) = true) ∧ (¬ x_up (hLe h) (ix (hTh h)) l u = -1 → 16 ≤ (x_up (hTy h) (ix (hTh h)) t u).toInt)
    rcases hnew u hu with x | x
    · have y := hold u x
      rw [x_up_ne _ _ y, x_up_ne _ _ y]
      exact h2 u x
    · subst x
      rw [x_up_self, x_up_self]
      rcases hl with x | x
      · refine ⟨?_, fun _ => x.2, fun y => absurd x.1 y⟩
        have x2 := x.2
        unfold tIsInst at x2
        simp only [Bool.or_eq_true, decide_eq_true_eq] at x2
        rcases x2 with z | z | z <;> rw [z] <;> decide
      · obtain ⟨ta, tb⟩ := tIsArr_T x.1
        refine ⟨ta, fun y => ?_, fun _ => tb⟩
        rw [y, hm1] at x
        omega
  · intro u w huw hw hlu hlw
    show (x_up (hSt h) (ix (hTh h)) (hEl h) u).toInt + (x_up (hLe h) (ix (hTh h)) l u).toInt ≤ (x_up (hSt h) (ix (hTh h)) (hEl h) w).toInt
    have hlu : ¬ x_up (hLe h) (ix (hTh h)) l u = -1 := hlu
    have hlw : ¬ x_up (hLe h) (ix (hTh h)) l w = -1 := hlw
    rcases hnew w hw with x | x
    · have y := hold w x
      have y2 := hold u (by omega)
      rw [x_up_ne _ _ y] at hlw ⊢
      rw [x_up_ne _ _ y2] at hlu ⊢
      rw [x_up_ne _ _ y2]
      exact h3 u w huw x hlu hlw
    · have y2 := hold u (by omega)
      rw [x_up_ne _ _ y2] at hlu ⊢
      rw [x_up_ne _ _ y2, x, x_up_self]
      exact (h1.2.2.2.2 u (by omega) hlu).2.2
  · intro j hj
    have hj : (hEl h + (bif decide (l ≤ 0) then 0 else l)).toInt ≤ j := hj
    have := h4 j (by omega)
    refine ⟨?_, ?_⟩
    · show fillV (hAm h) (ix (hEl h)) (bif uNum t then 0 else -1) (ix l) j = 0
      rw [fV _ _ _ (by omega)]
      exact this.1
    · show fillR (hRe h) (ix (hEl h)) (ix l) j = _
      rw [fR]
      exact this.2
  · intro u hu hlu hty i hi
    show fillV (hAm h) (ix (hEl h)) (bif uNum t then 0 else -1) (ix l) (ix (x_up (hSt h) (ix (hTh h)) (hEl h) u) + i) = -1 ∨ ∃ q : Nat, (q : Int) < (hTh h + 1).toInt ∧ fillV (hAm h) (ix (hEl h)) (bif uNum t then 0 else -1) (ix l) (ix (x_up (hSt h) (ix (hTh h)) (hEl h) u) + i) = lN q
    have hlu : ¬ x_up (hLe h) (ix (hTh h)) l u = -1 := hlu
    have hty : 24 ≤ (x_up (hTy h) (ix (hTh h)) t u).toInt := hty
    have hi : (i : Int) < (x_up (hLe h) (ix (hTh h)) l u).toInt := hi
    rcases hnew u hu with x | x
    · have y := hold u x
      rw [x_up_ne _ _ y] at hlu hty hi ⊢
      have g := h1.2.2.2.2 u x hlu
      rw [fV _ _ _ (by rw [ix_eq (hSt h u)]; omega)]
      rcases h5 u x hlu hty i hi with z | ⟨q, z1, z2⟩
      · exact Or.inl z
      · exact Or.inr ⟨q, by omega, z2⟩
    · subst x
      rw [x_up_self] at hlu hty hi ⊢
      rcases hl with x | x
      · exact absurd x.1 hlu
      · obtain ⟨ta, tb⟩ := tIsArr_T x.1
        obtain ⟨u1, u2, u3⟩ := arr_type ta tb
        have hn : tIsNum (t - 16) = false := by
          cases hz : tIsNum (t - 16)
          · rfl
          · have := tIsNum_rng hz
            omega
        rw [u1, hn, cond_false, fV1 _ _ _ (by rw [ix_eq]; omega)]
        exact Or.inl rfl
theorem hMA_cases {h : SH} (hI : hInv h) {t n : Int32} (ht : tIsArr t = true) : hMA h t n = (-1, h) ∨ (0 ≤ n.toInt ∧ uRoom h 1 n.toInt64 = true ∧ hMA h t n = (hTh h, uMk h t n)) := by
  by_cases hn : n < 0
  · refine Or.inl ?_
    unfold hMA
    rw [decide_eq_true hn]
    rfl
  · have hn : 0 ≤ n.toInt := i_not_lt hn
    cases hr : uRoom h 1 n.toInt64
    · exact Or.inl (hMA_F hI.1 hn hr)
    · exact Or.inr ⟨hn, rfl, hMA_T hI ht hn hr⟩
theorem hInv_MA {h : SH} (hI : hInv h) {t n : Int32} (ht : tIsArr t = true) : hInv (hMA h t n).2 ∧ ((hMA h t n).1 = -1 ∨ ∃ q : Nat, (q : Int) < (hTh (hMA h t n).2).toInt ∧ (hMA h t n).1.toInt64 = lN q) ∧ hRe (hMA h t n).2 = hRe h := by
  rcases hMA_cases hI (n := n) ht with x | ⟨x, y, z⟩
  · rw [x]
    exact ⟨hI, Or.inl rfl, rfl⟩
  · rw [z]
    obtain ⟨r1, r2⟩ := (uRoom_iff hI.1 x).mp y
    obtain ⟨k1, k2⟩ := hInv_mk hI r1 (Or.inr ⟨ht, x, r2⟩)
    have h0 := hI.1.1
    have h1 := hI.1.2.1
    have h2 := hI.1.2.2.1
    refine ⟨k1, Or.inr ⟨ix (hTh h), ?_, ?_⟩, ?_⟩
    · show _ < (hTh (uMk h t n)).toInt
      rw [k2, ix_eq]
      omega
    · show (hTh h).toInt64 = _
      have e := nI_toI h0
      have e2 := nI_l (n := (hTh h).toInt.toNat) (by omega)
      rw [← e] at e2
      exact e2
    · exact fillR_same (fun j hj => (hI.2.2.2.1 j (by rw [ix_eq] at hj; omega)).2) _
