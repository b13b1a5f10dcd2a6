/-! heaps: puts, sums, copies, nested arrays -/
theorem arr_nI {h : SH} (hh : hOK h) {t : Int32} (ha : hIsArray h t = true) : t = nI (ix t) ∧ ((ix t : Nat) : Int) < (hTh h).toInt ∧ ¬ hLe h (ix t) = -1 := by
  simp only [hIsArray, hIsThing, Bool.and_eq_true, Bool.not_eq_true', decide_eq_false_iff_not] at ha
  obtain ⟨⟨h1, h2⟩, h3⟩ := ha
  have h1 : 0 ≤ t.toInt := i_not_lt h1
  have h2 := i_not_le h2
  exact ⟨nI_toI h1, by rw [ix_eq]; omega, h3⟩
theorem el_nI {h : SH} (hh : hOK h) {t i : Int32} (he : hHasEl h t i = true) : t = nI (ix t) ∧ ((ix t : Nat) : Int) < (hTh h).toInt ∧ ¬ hLe h (ix t) = -1 ∧ 0 ≤ i.toInt ∧ i.toInt < (hLe h (ix t)).toInt := by
  simp only [hHasEl, Bool.and_eq_true, Bool.not_eq_true', decide_eq_false_iff_not] at he
  obtain ⟨h1, h2, h3⟩ := he
  obtain ⟨a, b, c⟩ := arr_nI hh h1
  exact ⟨a, b, c, i_not_lt h2, i_not_le h3⟩
/-- an array, all that is known of it -/
theorem arr_all {h : SH} (hI : hInv h) {t : Int32} (ha : hIsArray h t = true) : t = nI (ix t) ∧ ((ix t : Nat) : Int) < (hTh h).toInt ∧ ¬ hLe h (ix t) = -1 ∧ hTyEl h t = hTy h (ix t) - 16 ∧ tIsType (hTy h (ix t) - 16) = true ∧ (hTy h (ix t) - 16).toInt = (hTy h (ix t)).toInt - 16 ∧ 0 ≤ (hSt h (ix t)).toInt ∧ 0 ≤ (hLe h (ix t)).toInt ∧ (hSt h (ix t)).toInt + (hLe h (ix t)).toInt ≤ (hEl h).toInt := by
  obtain ⟨a, b, c⟩ := arr_nI hI.1 ha
  obtain ⟨f1, f2, f3, f4, f5⟩ := arr_facts hI b c
  rw [← a] at f2
  exact ⟨a, b, c, f2, f3, f4, f5⟩
theorem hNums_rng {h : SH} (hI : hInv h) {t : Int32} (ha : hIsArray h t = true) : hNums h t = true ↔ (hTy h (ix t)).toInt < 24 := by
  obtain ⟨a, b, c, e, f, g, _⟩ := arr_all hI ha
  unfold hNums
  rw [e, ← tIsNum_8 f]
  have e8 : (8 : Int32).toInt = 8 := rfl
  by_cases z : 8 ≤ hTy h (ix t) - 16
  · have := i_le z
    rw [decide_eq_true z]
    constructor
    · intro y; cases y
    · intro y; omega
  · have := i_not_le z
    rw [decide_eq_false z]
    constructor
    · intro _; omega
    · intro _; rfl
theorem hSetAm_AR (h : SH) (am : Nat → Int64) : hSetAm h am = hSetAR h am (hRe h) := rfl
theorem hInv_put {h : SH} (hI : hInv h) {t i k : Int32} {a : Int64} (hv : vOK h k a) (hp : (hPut h t i k a).1 = 0) : hInv (hPut h t i k a).2 ∧ hKeep h (hPut h t i k a).2 ∧ (∀ j, hRe (hPut h t i k a).2 j = hRe h j ∨ hRe (hPut h t i k a).2 j = FP.f2d (FP.l2f a) ∨ hRe (hPut h t i k a).2 j = FP.l2d a) := by
  unfold hPut at hp ⊢
  cases he : hHasEl h t i
  · rw [he] at hp; cases hp
  · rw [he] at hp
    simp only [Bool.not_true, cond_false] at hp ⊢
    cases h9 : (tIsNum (hTyEl h t) != decide (k = 0))
    · rw [h9] at hp
      simp only [cond_false] at hp ⊢
      cases h3 : (decide (k = 2) && !tSub (hTypeOf h a.toInt32) (hTyEl h t))
      · simp only [cond_false]
        obtain ⟨a1, a2, a3, a4, a5⟩ := el_nI hI.1 he
        obtain ⟨f1, f2, f3, f4, f5, f6, f7⟩ := arr_facts hI a2 a3
        rw [← a1] at f2
        obtain ⟨g1, g2, g3, g4⟩ := el_facts hI a2 a3 a4 a5
        have hi : ((ix i : Nat) : Int) < (hLe h (ix t)).toInt := by rw [ix_eq]; omega
        have hput : ∀ r, tIsNum (hTyEl h t) = true → hInv (hPutRe h (hSt h (ix t) + i) r) := by
          intro r hn
          show hInv (hSetAR h (x_up (hAm h) (ix (hSt h (ix t) + i)) (FP.d2l r)) (x_up (hRe h) (ix (hSt h (ix t) + i)) r))
          rw [g4]
          refine hInv_at hI a2 a3 hi _ _ ?_ ?_
          · intro j hj
            refine x_up_ne _ _ ?_
            have e1 := ix_eq (hSt h (ix t))
            have e2 := ix_eq i
            omega
          · intro h24
            rw [f2] at hn
            have := tIsNum_rng hn
            omega
        unfold hPut0
        cases h6 : decide (hTyEl h t = 6)
        · simp only [cond_false]
          cases h7 : decide (hTyEl h t = 7)
          · simp only [cond_false]
            refine ⟨?_, hKeep.refl h, fun j => Or.inl rfl⟩
            rw [hSetAm_AR, g4]
            refine hInv_at hI a2 a3 hi _ _ (fun j hj => rfl) ?_
            intro h24
            have hn : tIsNum (hTyEl h t) = false := by
              rw [f2]
              cases hz : tIsNum (hTy h (ix t) - 16)
              · rfl
              · have := tIsNum_rng hz
                omega
            rw [hn] at h9
            have hk : ¬ k = 0 := by
              intro z
              rw [decide_eq_true z] at h9
              cases h9
            rw [decide_eq_false hk, cond_false]
            rcases hv with x | x | x
            · exact absurd x hk
            · exact Or.inl x.2
            · exact Or.inr x.2
          · have h7 : hTyEl h t = 7 := of_decide_eq_true h7
            refine ⟨hput _ (by rw [h7]; decide), hKeep.refl h, ?_⟩
            intro j
            show x_up _ _ _ j = _ ∨ x_up _ _ _ j = _ ∨ x_up _ _ _ j = _
            unfold x_up
            by_cases hj : j = ix (hSt h (ix t) + i)
            · rw [if_pos hj]; exact Or.inr (Or.inr rfl)
            · rw [if_neg hj]; exact Or.inl rfl
        · have h6 : hTyEl h t = 6 := of_decide_eq_true h6
          refine ⟨hput _ (by rw [h6]; decide), hKeep.refl h, ?_⟩
          intro j
          show x_up _ _ _ j = _ ∨ x_up _ _ _ j = _ ∨ x_up _ _ _ j = _
          unfold x_up
          by_cases hj : j = ix (hSt h (ix t) + i)
          · rw [if_pos hj]; exact Or.inr (Or.inl rfl)
          · rw [if_neg hj]; exact Or.inl rfl
      · rw [h3] at hp; cases hp
    · rw [h9] at hp; cases hp
theorem hPut_fail {h : SH} {t i k : Int32} {a : Int64} (hp : ¬ (hPut h t i k a).1 = 0) : (hPut h t i k a).2 = h ∧ 0 < (hPut h t i k a).1.toInt := by
  unfold hPut at hp ⊢
  cases he : hHasEl h t i
  · exact ⟨rfl, show 0 < (2 : Int32).toInt by decide⟩
  · rw [he] at hp
    simp only [Bool.not_true, cond_false] at hp ⊢
    cases h9 : (tIsNum (hTyEl h t) != decide (k = 0))
    · rw [h9] at hp
      simp only [cond_false] at hp ⊢
      cases h3 : (decide (k = 2) && !tSub (hTypeOf h a.toInt32) (hTyEl h t))
      · rw [h3] at hp; exact absurd rfl hp
      · exact ⟨rfl, show 0 < (3 : Int32).toInt by decide⟩
    · exact ⟨rfl, show 0 < (9 : Int32).toInt by decide⟩
theorem hInv_sum {h : SH} (hI : hInv h) {t i : Int32} {a : Int64} {r : UInt64} {m : Int64} (hn : hNums h t = true) : hInv (hSum h t i a r m) ∧ hKeep h (hSum h t i a r m) ∧ (∀ j, hRe (hSum h t i a r m) j = hRe h j ∨ hRe (hSum h t i a r m) j = FP.f2d (FP.fadd (FP.d2f r) (FP.l2f m)) ∨ hRe (hSum h t i a r m) j = FP.dadd r (FP.l2d m)) := by
  unfold hSum
  cases he : hHasEl h t i
  · exact ⟨hI, hKeep.refl h, fun j => Or.inl rfl⟩
  · simp only [Bool.not_true, cond_false]
    obtain ⟨a1, a2, a3, a4, a5⟩ := el_nI hI.1 he
    obtain ⟨f1, f2, f3, f4, f5, f6, f7⟩ := arr_facts hI a2 a3
    rw [← a1] at f1 f2
    obtain ⟨g1, g2, g3, g4⟩ := el_facts hI a2 a3 a4 a5
    have hi : ((ix i : Nat) : Int) < (hLe h (ix t)).toInt := by rw [ix_eq]; omega
    have h24 : ¬ 24 ≤ (hTy h (ix t)).toInt := by have := (hNums_rng hI f1).mp hn; omega
    have hput : ∀ r, hInv (hPutRe h (hSt h (ix t) + i) r) := by
      intro r
      show hInv (hSetAR h (x_up (hAm h) (ix (hSt h (ix t) + i)) (FP.d2l r)) (x_up (hRe h) (ix (hSt h (ix t) + i)) r))
      rw [g4]
      refine hInv_at hI a2 a3 hi _ _ ?_ (fun z => absurd z h24)
      intro j hj
      refine x_up_ne _ _ ?_
      have e1 := ix_eq (hSt h (ix t))
      have e2 := ix_eq i
      omega
    unfold hSum0
    cases h6 : decide (hTyEl h t = 6)
    · simp only [cond_false]
      cases h7 : decide (hTyEl h t = 7)
      · simp only [cond_false]
        refine ⟨?_, hKeep.refl h, fun j => Or.inl rfl⟩
        rw [hSetAm_AR, g4]
        exact hInv_at hI a2 a3 hi _ _ (fun j hj => rfl) (fun z => absurd z h24)
      · refine ⟨hput _, hKeep.refl h, ?_⟩
        intro j
        show x_up _ _ _ j = _ ∨ x_up _ _ _ j = _ ∨ x_up _ _ _ j = _
        unfold x_up
        by_cases hj : j = ix (hSt h (ix t) + i)
        · rw [if_pos hj]; exact Or.inr (Or.inr rfl)
        · rw [if_neg hj]; exact Or.inl rfl
    · refine ⟨hput _, hKeep.refl h, ?_⟩
      intro j
      show x_up _ _ _ j = _ ∨ x_up _ _ _ j = _ ∨ x_up _ _ _ j = _
      unfold x_up
      by_cases hj : j = ix (hSt h (ix t) + i)
      · rw [if_pos hj]; exact Or.inr (Or.inl rfl)
      · rw [if_neg hj]; exact Or.inl rfl
theorem hInv_cpy {h : SH} (hI : hInv h) {f t : Nat} (hf : (f : Int) < (hTh h).toInt) (ht : (t : Int) < (hTh h).toInt) (hlf : ¬ hLe h f = -1) (hlt : ¬ hLe h t = -1) (hty : 24 ≤ (hTy h t).toInt → 24 ≤ (hTy h f).toInt) {a b n : Int32} {s p : Nat} (ha : ix a = ix (hSt h f) + s) (hb : ix b = ix (hSt h t) + p) (hs : ((s + ix n : Nat) : Int) ≤ (hLe h f).toInt) (hp : ((p + ix n : Nat) : Int) ≤ (hLe h t).toInt) : hInv (hCpy h a b n) ∧ hKeep h (hCpy h a b n) ∧ (∀ j, ∃ q, hRe (hCpy h a b n) j = hRe h q) := by
  have f1 := hI.1.2.2.2.2 f hf hlf
  have f2 := hI.1.2.2.2.2 t ht hlt
  have e2 := ix_eq (hSt h t)
  have e1 := ix_eq (hSt h f)
  refine ⟨?_, hKeep.refl h, ?_⟩
  · show hInv (hSetAR h (va_cpy (hAm h) (hAm h) (ix a) (ix b) (ix n)) (va_cpy (hRe h) (hRe h) (ix a) (ix b) (ix n)))
    refine hInv_AR hI ?_ ?_
    · intro j hj
      unfold va_cpy
      rw [if_neg (by omega), if_neg (by omega)]
      exact ⟨rfl, rfl⟩
    · intro u hu hlu h24 i hi
      unfold va_cpy
      by_cases hj : ix b ≤ ix (hSt h u) + i ∧ ix (hSt h u) + i < ix b + ix n
      · rw [if_pos hj]
        have e : ix (hSt h u) + i = ix (hSt h t) + (p + (ix (hSt h u) + i - ix b)) := by omega
        have := place_eq hI hu ht hlu hlt hi (by omega) e
        subst this
        have := hI.2.2.2.2 f hf hlf (hty h24) (s + (ix (hSt h u) + i - ix b)) (by omega)
        rw [ha, Nat.add_assoc]
        exact Or.inr this
      · rw [if_neg hj]
        exact Or.inl rfl
  · intro j
    show ∃ q, va_cpy _ _ _ _ _ j = _
    unfold va_cpy
    by_cases hj : ix b ≤ j ∧ j < ix b + ix n
    · rw [if_pos hj]; exact ⟨_, rfl⟩
    · rw [if_neg hj]; exact ⟨_, rfl⟩
/-- the elements of an array of arrays get arrays -/
theorem hInv_el {h h1 : SH} {x : Int32} {mm n : Nat} (hI1 : hInv h1) (hk : hKeep h h1) (hm : (mm : Int) < (hTh h).toInt) (hl : ¬ hLe h mm = -1) (hn : (n : Int) < (hLe h mm).toInt) (hst : hSt h mm + nI n = nI (ix (hSt h mm) + n)) (hx : x = -1 ∨ ∃ q : Nat, (q : Int) < (hTh h1).toInt ∧ x.toInt64 = lN q) : hInv (hSetAm h1 (x_up (hAm h1) (ix (hSt h mm + nI n)) x.toInt64)) := by
  obtain ⟨k1, k2, k3⟩ := hk.2 mm hm
  have f1 := hI1.1.2.2.2.2 mm (by have := hk.1; omega) (by rw [k3]; exact hl)
  have f2 := hI1.1.2.2.2.1
  have e : ix (hSt h mm + nI n) = ix (hSt h1 mm) + n := by
    rw [k2, hst, ix_nI]
    rw [k2, k3] at f1
    rw [ix_eq]
    omega
  rw [e, hSetAm_AR]
  refine hInv_at hI1 (by have := hk.1; omega) (by rw [k3]; exact hl) (by rw [k3]; exact hn) _ _ (fun j hj => rfl) ?_
  intro _
  rcases hx with z | z
  · rw [z]; exact Or.inl rfl
  · exact Or.inr z
theorem hIn_inv {h : SH} (hI : hInv h) {t s : Int32} {mm : Nat} (ht : tIsArr (t - 16) = true) (hm : (mm : Int) < (hTh h).toInt) (hl : ¬ hLe h mm = -1) : ∀ n : Nat, (n : Int) ≤ (hLe h mm).toInt → hInv (hIn h t (nI mm) s n) ∧ hRe (hIn h t (nI mm) s n) = hRe h
  | 0, _ => ⟨hI, rfl⟩
  | n + 1, hn => by
    obtain ⟨i1, i2⟩ := hIn_inv hI (s := s) ht hm hl n (by omega)
    have hk := hIn_keep (t := t) (m := nI mm) (s := s) hI.1 n
    obtain ⟨j1, j2, j3⟩ := hInv_MA i1 (n := s) ht
    have hk2 := hMA_keep (t := t - 16) (n := s) i1.1
    have h4 := hI.1.2.1
    have ei : ix (nI mm) = mm := ix_nI (by omega)
    have f1 := hI.1.2.2.2.2 mm hm hl
    have f2 := hI.1.2.2.2.1
    have es : hSt (hIn h t (nI mm) s n) mm = hSt h mm := (hk.2 mm hm).2.1
    have el : hLe (hIn h t (nI mm) s n) mm = hLe h mm := (hk.2 mm hm).2.2
    refine ⟨?_, ?_⟩
    · unfold hIn
      rw [ei]
      refine hInv_el (h := hIn h t (nI mm) s n) (mm := mm) (n := n) j1 hk2 (by have := hk.1; omega) (by rw [el]; exact hl) (by rw [el]; omega) ?_ j2
      rw [es, ← nI_add]
      congr 1
      exact nI_toI f1.1
    · show hRe (hMA (hIn h t (nI mm) s n) (t - 16) s).2 = _
      rw [j3, i2]
theorem hMA_len {h : SH} (hI : hInv h) {t f : Int32} (ht : tIsArr t = true) (hne : ¬ (hMA h t f).1 = -1) : (hMA h t f).1 = nI (ix (hMA h t f).1) ∧ ((ix (hMA h t f).1 : Nat) : Int) < (hTh (hMA h t f).2).toInt ∧ hLe (hMA h t f).2 (ix (hMA h t f).1) = f ∧ 0 ≤ f.toInt := by
  rcases hMA_cases hI (n := f) ht with x | ⟨x, y, z⟩
  · rw [x] at hne; exact absurd rfl hne
  · rw [z]
    obtain ⟨r1, r2⟩ := (uRoom_iff hI.1 x).mp y
    obtain ⟨k1, k2⟩ := hInv_mk hI r1 (Or.inr ⟨ht, x, r2⟩)
    have h0 := hI.1.1
    refine ⟨nI_toI h0, ?_, x_up_self _ _ _, x⟩
    show ((ix (hTh h) : Nat) : Int) < (hTh (uMk h t f)).toInt
    rw [k2, ix_eq]
    omega
theorem nI_ne {a : Int32} {n : Nat} (h : a = nI n) (hn : n < 2 ^ 31) : ¬ a = -1 := fun y => by
  have := nI_toInt hn
  rw [← h, y] at this
  have e : (-1 : Int32).toInt = -1 := rfl
  omega
theorem hWithin_inv {h : SH} (hI : hInv h) {t f s : Int32} (ht : tIsArr t = true) (hs : s = -1 ∨ tIsArr (t - 16) = true) : hInv (hWithin h t f s).2 ∧ ((hWithin h t f s).1 = -1 ∨ ∃ q : Nat, (q : Int) < (hTh (hWithin h t f s).2).toInt ∧ (hWithin h t f s).1.toInt64 = lN q) ∧ hRe (hWithin h t f s).2 = hRe h := by
  have j := hInv_MA hI (n := f) ht
  unfold hWithin
  cases hc : (decide ((hMA h t f).1 = -1) || decide (s = -1))
  · simp only [Bool.or_eq_false_iff, decide_eq_false_iff_not] at hc
    obtain ⟨c1, c2⟩ := hc
    obtain ⟨l1, l2, l3, l4⟩ := hMA_len hI ht c1
    have hts := hs.resolve_left c2
    have hm1 : (-1 : Int32).toInt = -1 := rfl
    have hne : ¬ hLe (hMA h t f).2 (ix (hMA h t f).1) = -1 := by
      rw [l3]
      intro z
      rw [z, hm1] at l4
      omega
    have k := hIn_inv j.1 (s := s) hts l2 hne (ix f) (by rw [l3, ix_eq]; omega)
    rw [← l1] at k
    refine ⟨k.1, ?_, k.2.trans j.2.2⟩
    rcases j.2.1 with x | ⟨q, x, y⟩
    · exact Or.inl x
    · refine Or.inr ⟨q, ?_, y⟩
      have := (hIn_keep (t := t) (m := (hMA h t f).1) (s := s) j.1.1 (ix f)).1
      show _ < (hTh (hIn (hMA h t f).2 t (hMA h t f).1 s (ix f))).toInt
      omega
  · exact j
theorem hIn2_inv {h : SH} (hI : hInv h) {t s u : Int32} {mm : Nat} (ht : tIsArr (t - 16) = true) (hu : u = -1 ∨ tIsArr (t - 16 - 16) = true) (hm : (mm : Int) < (hTh h).toInt) (hl : ¬ hLe h mm = -1) : ∀ n : Nat, (n : Int) ≤ (hLe h mm).toInt → hInv (hIn2 h t (nI mm) s u n) ∧ hRe (hIn2 h t (nI mm) s u n) = hRe h
  | 0, _ => ⟨hI, rfl⟩
  | n + 1, hn => by
    obtain ⟨i1, i2⟩ := hIn2_inv hI (s := s) ht hu hm hl n (by omega)
    have hk := hIn2_keep (t := t) (m := nI mm) (s := s) (u := u) hI.1 n
    obtain ⟨j1, j2, j3⟩ := hWithin_inv i1 (f := s) ht hu
    have hk2 := hWithin_keep (t := t - 16) (f := s) (s := u) i1.1
    have h4 := hI.1.2.1
    have ei : ix (nI mm) = mm := ix_nI (by omega)
    have f1 := hI.1.2.2.2.2 mm hm hl
    have f2 := hI.1.2.2.2.1
    have es : hSt (hIn2 h t (nI mm) s u n) mm = hSt h mm := (hk.2 mm hm).2.1
    have el : hLe (hIn2 h t (nI mm) s u n) mm = hLe h mm := (hk.2 mm hm).2.2
    refine ⟨?_, ?_⟩
    · unfold hIn2
      rw [ei]
      refine hInv_el (h := hIn2 h t (nI mm) s u n) (mm := mm) (n := n) j1 hk2 (by have := hk.1; omega) (by rw [el]; exact hl) (by rw [el]; omega) ?_ j2
      rw [es, ← nI_add]
      congr 1
      exact nI_toI f1.1
    · show hRe (hWithin (hIn2 h t (nI mm) s u n) (t - 16) s u).2 = _
      rw [j3, i2]
theorem hMAs_inv {h : SH} (hI : hInv h) {t f s u : Int32} (ht : tIsArr t = true) (hs : s = -1 ∨ tIsArr (t - 16) = true) (hu : u = -1 ∨ tIsArr (t - 16 - 16) = true) : hInv (hMAs h t f s u).2 ∧ ((hMAs h t f s u).1 = -1 ∨ ∃ q : Nat, (q : Int) < (hTh (hMAs h t f s u).2).toInt ∧ (hMAs h t f s u).1.toInt64 = lN q) ∧ hRe (hMAs h t f s u).2 = hRe h ∧ hKeep h (hMAs h t f s u).2 := by
  have j := hInv_MA hI (n := f) ht
  have jk := hMA_keep (t := t) (n := f) hI.1
  unfold hMAs
  cases hR : (!hRoom h f s u)
  · simp only [cond_false]
    cases hc : (decide ((hMA h t f).1 = -1) || decide (s = -1))
    · simp only [Bool.or_eq_false_iff, decide_eq_false_iff_not] at hc
      obtain ⟨c1, c2⟩ := hc
      obtain ⟨l1, l2, l3, l4⟩ := hMA_len hI ht c1
      have hts := hs.resolve_left c2
      have hm1 : (-1 : Int32).toInt = -1 := rfl
      have hne : ¬ hLe (hMA h t f).2 (ix (hMA h t f).1) = -1 := by
        rw [l3]
        intro z
        rw [z, hm1] at l4
        omega
      have k := hIn2_inv j.1 (s := s) hts hu l2 hne (ix f) (by rw [l3, ix_eq]; omega)
      rw [← l1] at k
      have k2 := hIn2_keep (t := t) (m := (hMA h t f).1) (s := s) (u := u) j.1.1 (ix f)
      refine ⟨k.1, ?_, k.2.trans j.2.2, jk.trans k2⟩
      rcases j.2.1 with x | ⟨q, x, y⟩
      · exact Or.inl x
      · refine Or.inr ⟨q, ?_, y⟩
        have := k2.1
        show _ < (hTh (hIn2 (hMA h t f).2 t (hMA h t f).1 s u (ix f))).toInt
        omega
    · exact ⟨j.1, j.2.1, j.2.2, jk⟩
  · exact ⟨hI, Or.inl rfl, rfl, hKeep.refl h⟩
