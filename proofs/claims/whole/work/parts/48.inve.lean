/-! each kind of node -/
section INVF
variable {G : Int → UInt64 → Prop} {κ : Int} {S : SS} {b : Int32} {P : SP} {E : Int32 → SS → SO}
def EA (G : Int → UInt64 → Prop) (E : Int32 → SS → SO) : Prop := ∀ κ c S, Inv G κ S → RR G κ S (vH S.2.1) (E c S)
theorem EA.at (ea : EA G E) (hI : Inv G κ S) (hb : vH S.2.1 = b) (c : Int32) : RR G κ S b (E c S) := by
  subst hb; exact ea κ c S hI
theorem RR_take {n : Int32} {f : SS → SO} {x : SO} (go : GO G) (hR : RR G κ S b x) (hx : x.1 = false) (hf : ∀ S1, Inv G κ S1 → vH S1.2.1 = b → RR G κ S1 b (f S1)) : RR G κ S b (oAnd (oTake P x.2 n) f) := by
  obtain ⟨a1, a2, a3, a4, a5, a6⟩ := hR
  cases ht : (oTake P x.2 n).1
  · rw [oAnd_f ht]
    unfold oTake at ht ⊢
    cases h1 : decide (rF x.2.2.2 = 10)
    · rw [h1] at ht
      cases h2 : decide (rC x.2.2.2 < 40)
      · exact ⟨a1, (fun z => by cases z), a3, a4, a5, fun _ => ⟨(fun z => by cases z), fun _ => show 0 < (10 : Int32).toInt by decide⟩⟩
      · rw [h2] at ht; cases ht
    · exact ⟨a1, (fun z => by cases z), a3, a4, a5, fun z => ⟨(fun y => by cases y), fun _ => (a6 z).2 hx⟩⟩
  · rw [oAnd_t ht]
    have hI := Inv_take (P := P) (n := n) a1 ht
    have e : (oTake P x.2 n).2.1 = x.2.1 ∧ vH (oTake P x.2 n).2.2.1 = vH x.2.2.1 ∧ rN (oTake P x.2 n).2.2.2 = rN x.2.2.2 ∧ rF (oTake P x.2 n).2.2.2 = 0 := by
      unfold oTake at ht ⊢
      cases h1 : decide (rF x.2.2.2 = 10)
      · rw [h1] at ht
        cases h2 : decide (rC x.2.2.2 < 40)
        · rw [h2] at ht; cases ht
        · obtain ⟨e1, e2, e3⟩ := sVar_eq (sCatch x.2) (pc' P (ix n)) 0 (rF x.2.2.2).toInt64
          refine ⟨e1, e3, ?_, rfl⟩
          show rN (sVar (sCatch x.2) (pc' P (ix n)) 0 (rF x.2.2.2).toInt64).2.2 = _
          rw [e2]
          rfl
      · rw [h1] at ht; cases ht
    obtain ⟨c1, c2, c3, c4, c5, c6⟩ := hf _ hI (e.2.1.trans a3)
    refine ⟨c1, c2, c3, ?_, ?_, fun _ => c6 e.2.2.2⟩
    · rw [e.1] at c4
      exact a4.trans c4
    · rw [e.2.2.1] at c5
      omega
theorem RR_flow {n : Int32} (go : GO G) (ea : EA G E) (hI : Inv G κ S) (hb : vH S.2.1 = b) (hN : pC P (ix n) = 4 → Inv G κ (sNote S (pa P (ix n)))) : RR G κ S b (eFlow P E n S) := by
  unfold eFlow
  cases h3 : decide (pC P (ix n) = 3)
  · cases h4 : decide (pC P (ix n) = 4)
    · cases h18 : decide (pC P (ix n) = 18)
      · cases h19 : decide (pC P (ix n) = 19)
        · cases h23 : decide (pC P (ix n) = 23)
          · cases h24 : decide (pC P (ix n) = 24)
            · cases h25 : decide (pC P (ix n) = 25)
              · exact RR_fail hI hb (by decide)
              · have h := ea.at hI hb (pa P (ix n))
                simp only [cond_true, cond_false]
                cases hx : (E (pa P (ix n)) S).1
                · simp only [cond_false]
                  exact RR_take go h hx (fun S1 i1 b1 => ea.at i1 b1 _)
                · exact h
            · simp only [cond_true, cond_false]
              refine (ea.at hI hb _).and go (fun hx => ?_)
              have h := ea.at hI hb (pa P (ix n))
              refine (RR_num h.1 h.2.2.1 (h.2.1 hx)).and go (fun hy => ?_)
              rw [oNum_same hy]
              exact ea.at h.1 h.2.2.1 _
          · simp only [cond_true, cond_false]
            refine (ea.at hI hb _).and go (fun hx => ?_)
            have h := ea.at hI hb (pa P (ix n))
            exact ea.at h.1 h.2.2.1 _
        · simp only [cond_true, cond_false]
          refine (ea.at hI hb _).and go (fun hx => ?_)
          have h := ea.at hI hb (pb P (ix n))
          refine (RR_ref h.1 h.2.2.1 (h.2.1 hx)).and go (fun hy => ?_)
          rw [oRef_same hy]
          exact RR_give h.1 h.2.2.1 vOK0
      · simp only [cond_true, cond_false]
        refine (ea.at hI hb _).and go (fun hx => ?_)
        have h := ea.at hI hb (pb P (ix n))
        exact RR_cast h.1 h.2.2.1 (h.2.1 hx)
    · simp only [cond_true, cond_false]
      have h := ea.at (hN (of_decide_eq_true h4)) (by exact hb) (pb P (ix n))
      exact h
  · simp only [cond_true]
    refine (ea.at hI hb _).and go (fun hx => ?_)
    have h := ea.at hI hb (pb P (ix n))
    exact RR_var h.1 h.2.2.1 (h.2.1 hx)
theorem RR_num20 {n : Int32} (hI : Inv G κ S) (hb : vH S.2.1 = b) (hv : vOK S.1 (rK S.2.2) (rA S.2.2)) : RR G κ S b (oNum20 P S n) := by
  unfold oNum20
  cases decide (pC P (ix n) = 20)
  · exact RR_num hI hb hv
  · exact RR_same hI hb hv
theorem RR_two {n : Int32} (go : GO G) (ea : EA G E) (hI : Inv G κ S) (hb : vH S.2.1 = b) : RR G κ S b (eTwo P E n S) := by
  unfold eTwo
  refine (ea.at hI hb _).and go (fun hx => ?_)
  have h := ea.at hI hb (pa P (ix n))
  generalize (E (pa P (ix n)) S) = x1 at *
  refine (RR_num20 h.1 h.2.2.1 (h.2.1 hx)).and go (fun hy => ?_)
  rw [oNum20_same hy]
  refine (ea.at h.1 h.2.2.1 _).and go (fun hx => ?_)
  have h2 := ea.at h.1 h.2.2.1 (pb P (ix n))
  generalize (E (pb P (ix n)) x1.2) = x2 at *
  refine (RR_num20 h2.1 h2.2.2.1 (h2.2.1 hx)).and go (fun hy => ?_)
  rw [oNum20_same hy]
  unfold oTwo oSame
  cases decide (pC P (ix n) = 6)
  · cases decide (pC P (ix n) = 20)
    · cases decide (rA x2.2.2.2 = 0)
      · exact RR_give h2.1 h2.2.2.1 vOK0
      · exact RR_fail h2.1 h2.2.2.1 (by decide)
    · simp only [cond_true, cond_false]
      cases (decide (rK x2.2.2.2 = 0) != decide (rK x1.2.2.2 = 0))
      · exact RR_give h2.1 h2.2.2.1 vOK0
      · exact RR_fail h2.1 h2.2.2.1 (by decide)
  · exact RR_give h2.1 h2.2.2.1 vOK0
theorem RR_make0 {n f s u : Int32} {neg : Bool} (hI : Inv G κ S) (hb : vH S.2.1 = b) (ht : tIsArr (pa P (ix n)) = true) (hs : s = -1 ∨ tIsArr (pa P (ix n) - 16) = true) (hu : u = -1 ∨ tIsArr (pa P (ix n) - 16 - 16) = true) : RR G κ S b (oMake P n f s u neg S) := by
  unfold oMake
  cases neg
  · obtain ⟨j1, j2, j3, j4⟩ := hMAs_inv hI.1 (f := f) ht hs hu
    exact RR_made hI hb j1 j4 (fun j => ⟨j, by rw [j3]⟩) j2
  · exact RR_fail hI hb (by decide)
theorem RR_make2 {n f s : Int32} {neg : Bool} (go : GO G) (ea : EA G E) (hI : Inv G κ S) (hb : vH S.2.1 = b) (ht : tIsArr (pa P (ix n)) = true) (hs : s = -1 ∨ tIsArr (pa P (ix n) - 16) = true) (hu : pd P (ix n) = -1 ∨ tIsArr (pa P (ix n) - 16 - 16) = true) : RR G κ S b (eMake2 P E n f s neg S) := by
  unfold eMake2
  cases hd : decide (pd P (ix n) = -1)
  · have hu := hu.resolve_left (of_decide_eq_false hd)
    simp only [cond_false]
    refine (ea.at hI hb _).and go (fun hx => ?_)
    have h := ea.at hI hb (pd P (ix n))
    refine (RR_num h.1 h.2.2.1 (h.2.1 hx)).and go (fun hy => ?_)
    rw [oNum_same hy]
    exact RR_make0 h.1 h.2.2.1 ht hs (Or.inr hu)
  · exact RR_make0 hI hb ht hs (Or.inl rfl)
theorem RR_make {n : Int32} (go : GO G) (ea : EA G E) (hI : Inv G κ S) (hb : vH S.2.1 = b) (ht : tIsArr (pa P (ix n)) = true) (hs : pc' P (ix n) = -1 ∨ tIsArr (pa P (ix n) - 16) = true) (hu : pd P (ix n) = -1 ∨ tIsArr (pa P (ix n) - 16 - 16) = true) : RR G κ S b (eMake P E n S) := by
  unfold eMake
  refine (ea.at hI hb _).and go (fun hx => ?_)
  have h := ea.at hI hb (pb P (ix n))
  refine (RR_num h.1 h.2.2.1 (h.2.1 hx)).and go (fun hy => ?_)
  rw [oNum_same hy]
  unfold eMake1
  cases hc : decide (pc' P (ix n) = -1)
  · have hs := hs.resolve_left (of_decide_eq_false hc)
    simp only [cond_false]
    refine (ea.at h.1 h.2.2.1 _).and go (fun hx => ?_)
    have h2 := ea.at h.1 h.2.2.1 (pc' P (ix n))
    refine (RR_num h2.1 h2.2.2.1 (h2.2.1 hx)).and go (fun hy => ?_)
    rw [oNum_same hy]
    exact RR_make2 go ea h2.1 h2.2.2.1 ht (Or.inr hs) hu
  · exact RR_make2 go ea h.1 h.2.2.1 ht (Or.inl rfl) hu
theorem RR_fillL {n m : Int32} (go : GO G) (ea : EA G E) : ∀ (k i : Nat) (S : SS), Inv G κ S → vH S.2.1 = b → (∃ q : Nat, (q : Int) < (hTh S.1).toInt ∧ m.toInt64 = lN q) → RR G κ S b (eFillL P E n m k i S)
  | 0, i, S, hI, hb, hm => RR_give hI hb (Or.inr (Or.inr ⟨rfl, hm⟩))
  | k + 1, i, S, hI, hb, hm => by
    unfold eFillL
    refine (ea.at hI hb _).and go (fun hx => ?_)
    have h := ea.at hI hb (pNth P (pb P (ix n)) (nI i))
    have hp := RR_put (n := n) (t := m) (i := nI i) go h.1 h.2.2.1 (h.2.1 hx)
    refine hp.and go (fun hy => ?_)
    refine RR_fillL go ea k (i + 1) _ hp.1 hp.2.2.1 ?_
    obtain ⟨q, h1, h2⟩ := hm
    exact ⟨q, by have := h.2.2.2.1.1; have := hp.2.2.2.1.1; omega, h2⟩
theorem RR_filled {n : Int32} (go : GO G) (ea : EA G E) (hI : Inv G κ S) (hb : vH S.2.1 = b) (ht : tIsArr (pa P (ix n)) = true) : RR G κ S b (eFilled P E n S) := by
  obtain ⟨j1, j2, j3⟩ := hInv_MA hI.1 (n := pLen P (pb P (ix n))) ht
  have jk := hMA_keep (t := pa P (ix n)) (n := pLen P (pb P (ix n))) hI.1.1
  have hI2 := RR_heap hI j1 jk (fun j => ⟨j, by rw [j3]⟩)
  unfold eFilled
  by_cases hz : (hMA S.1 (pa P (ix n)) (pLen P (pb P (ix n)))).1 = -1
  · rw [decide_eq_true hz]
    have := RR_fail (b := b) (c := 6) (n := n) hI2 hb (by decide)
    exact ⟨this.1, this.2.1, this.2.2.1, jk, this.2.2.2.2⟩
  · rw [decide_eq_false hz]
    have := RR_fillL (P := P) (n := n) go ea (ix (pLen P (pb P (ix n)))) 0 _ hI2 hb (j2.resolve_left hz)
    exact ⟨this.1, this.2.1, this.2.2.1, jk.trans this.2.2.2.1, this.2.2.2.2⟩
theorem RR.from {S0 : SS} {x : SO} (hR : RR G κ S b x) (hk : hKeep S0.1 S.1) (hn : (rN S0.2.2).toInt ≤ (rN S.2.2).toInt) (hF : rF S0.2.2 = 0 → rF S.2.2 = 0) : RR G κ S0 b x :=
  ⟨hR.1, hR.2.1, hR.2.2.1, hk.trans hR.2.2.2.1, by have := hR.2.2.2.2.1; omega, fun z => hR.2.2.2.2.2 (hF z)⟩
theorem RR_gather {n m b0 : Int32} (go : GO G) : ∀ (k i : Nat) (S : SS), Inv G κ S → vH S.2.1 = b → (∃ q : Nat, (q : Int) < (hTh S.1).toInt ∧ m.toInt64 = lN q) → RR G κ S b (oGather S n m b0 k i)
  | 0, i, S, hI, hb, hm => RR_give hI hb (Or.inr (Or.inr ⟨rfl, hm⟩))
  | k + 1, i, S, hI, hb, hm => by
    unfold oGather
    cases decide (1600 ≤ b0 + nI i)
    · simp only [cond_false]
      have hp := RR_put (S := sGive S (vHK S.2.1 (ix (b0 + nI i))) (vHA S.2.1 (ix (b0 + nI i)))) (b := b) (n := n) (t := m) (i := nI i) go hI hb (hI.2.2.1 _)
      generalize oPut (sGive S (vHK S.2.1 (ix (b0 + nI i))) (vHA S.2.1 (ix (b0 + nI i)))) n m (nI i) = x at *
      cases hx : x.1
      · simp only [Bool.not_false, cond_true]
        exact hp.from (hKeep.refl _) (Int.le_refl _) (fun z => z)
      · simp only [Bool.not_true, cond_false]
        refine (RR_gather go k (i + 1) x.2 hp.1 hp.2.2.1 ?_).from hp.2.2.2.1 hp.2.2.2.2.1 (fun z => (hp.2.2.2.2.2 z).1 hx)
        obtain ⟨q, h1, h2⟩ := hm
        exact ⟨q, by have := hp.2.2.2.1.1; show (q : Int) < _; have h1 : (q : Int) < (hTh (sGive S (vHK S.2.1 (ix (b0 + nI i))) (vHA S.2.1 (ix (b0 + nI i)))).1).toInt := h1; omega, h2⟩
    · exact RR_give hI hb (Or.inr (Or.inr ⟨rfl, hm⟩))
theorem RR_gath {n b0 len : Int32} (go : GO G) (hI : Inv G κ S) (hb : vH S.2.1 = b) (ht : tIsArr (pa P (ix n)) = true) : RR G κ S b (oGath P S n b0 len) := by
  obtain ⟨j1, j2, j3⟩ := hInv_MA hI.1 (n := len) ht
  have jk := hMA_keep (t := pa P (ix n)) (n := len) hI.1.1
  have hI2 := RR_heap hI j1 jk (fun j => ⟨j, by rw [j3]⟩)
  unfold oGath
  by_cases hz : (hMA S.1 (pa P (ix n)) len).1 = -1
  · rw [decide_eq_true hz]
    exact (RR_fail (b := b) (c := 6) (n := n) hI2 hb (by decide)).from jk (Int.le_refl _) (fun z => z)
  · rw [decide_eq_false hz]
    exact (RR_gather (n := n) go (ix len) 0 _ hI2 hb (j2.resolve_left hz)).from jk (Int.le_refl _) (fun z => z)
theorem RR_varyL {n b0 : Int32} (go : GO G) (ea : EA G E) (ht : tIsArr (pa P (ix n)) = true) (hb0 : 0 ≤ b0.toInt ∧ b0.toInt ≤ 1600) : ∀ (k i : Nat) (S : SS), Inv G κ S → (pLen P (pb P (ix n)) = 1 → k = 0 → vOK S.1 (rK S.2.2) (rA S.2.2)) → RR G κ S b0 (eVaryL P E n b0 k i S)
  | 0, i, S, hI, hv => by
    have hI2 := Inv_held hI hb0
    unfold eVaryL oVary
    by_cases hl : pLen P (pb P (ix n)) = 1
    · rw [decide_eq_true hl, Bool.true_and]
      cases (decide (rK (sHeld S b0).2.2 = 1) || sIsOf (sHeld S b0) (pa P (ix n)))
      · exact (RR_gath (n := n) (b0 := b0) (len := pLen P (pb P (ix n))) go hI2 rfl ht).from (hKeep.refl _) (Int.le_refl _) (fun z => z)
      · exact (RR_same hI2 rfl (hv hl rfl)).from (hKeep.refl _) (Int.le_refl _) (fun z => z)
    · rw [decide_eq_false hl, Bool.false_and]
      exact (RR_gath (n := n) (b0 := b0) (len := pLen P (pb P (ix n))) go hI2 rfl ht).from (hKeep.refl _) (Int.le_refl _) (fun z => z)
  | k + 1, i, S, hI, hv => by
    unfold eVaryL
    have h := ea.at hI rfl (pNth P (pb P (ix n)) (nI i))
    generalize E (pNth P (pb P (ix n)) (nI i)) S = x at *
    cases hx : x.1
    · rw [oAnd_f hx, hx]
      exact ⟨Inv_held h.1 hb0, (fun z => by cases z), rfl, h.2.2.2.1, h.2.2.2.2.1, fun z => ⟨(fun y => by cases y), fun _ => (h.2.2.2.2.2 z).2 hx⟩⟩
    · rw [oAnd_t hx]
      unfold oHold
      by_cases hh : vH x.2.2.1 < 1600
      · rw [decide_eq_true hh]
        simp only [Bool.not_true, cond_false]
        exact (RR_varyL go ea ht hb0 k (i + 1) (sHold x.2) (Inv_hold h.1 (h.2.1 hx) hh) (fun _ _ => h.2.1 hx)).from h.2.2.2.1 h.2.2.2.2.1 (fun z => (h.2.2.2.2.2 z).1 hx)
      · rw [decide_eq_false hh]
        exact ⟨Inv_held h.1 hb0, (fun z => by cases z), rfl, h.2.2.2.1, h.2.2.2.2.1, fun z => ⟨(fun y => by cases y), fun _ => show 0 < (10 : Int32).toInt by decide⟩⟩
theorem RR_varied {n : Int32} (go : GO G) (ea : EA G E) (hI : Inv G κ S) (hb : vH S.2.1 = b) (ht : tIsArr (pa P (ix n)) = true) : RR G κ S b (eVaried P E n S) := by
  subst hb
  unfold eVaried
  refine RR_varyL go ea ht hI.2.2.2.1 _ 0 S hI ?_
  intro h1 h2
  rw [h1] at h2
  exact absurd h2 (by decide)
theorem RR_eachL {n t len : Int32} (go : GO G) (ea : EA G E) : ∀ (k i : Nat) (S : SS), Inv G κ S → vH S.2.1 = b → hIsArray S.1 t = true → hLe S.1 (ix t) = len → i + k = ix len → RR G κ S b (eEachL P E n t len k i S)
  | 0, i, S, hI, hb, _, _, _ => RR_give hI hb vOK0
  | k + 1, i, S, hI, hb, ha, hl, hi => by
    unfold eEachL
    obtain ⟨a1, a2, a3⟩ := arr_nI hI.1.1 ha
    have hr := hI.1.1.2.2.2.2 _ a2 a3
    have hr2 := hI.1.1.2.2.2.1
    have e31 := ix_lt len
    have he : hHasEl S.1 t (nI i) = true := by
      rw [a1]
      refine (el_facts hI.1 a2 a3 (i := nI i) ?_ ?_).1
      · rw [nI_toInt (by omega)]; omega
      · rw [nI_toInt (by omega), hl]; rw [ix_eq] at hi; omega
    obtain ⟨e1, e2, e3⟩ := sVar_eq S (pb P (ix n)) (hKindAt S.1 t (nI i)) (hAmAt S.1 t (nI i))
    have hI2 := Inv_var (v := pb P (ix n)) hI (el_vOK hI.1 he)
    have h := ea.at hI2 (e3.trans hb) (pc' P (ix n))
    have hk := h.2.2.2.1
    rw [e1] at hk
    have ka := hKeep_arr hk hI.1.1 ha
    have := h.and go (f := fun S => eEachL P E n t len k (i + 1) S) (fun hx => RR_eachL go ea k (i + 1) _ h.1 h.2.2.1 ka.1 (ka.2.1.trans hl) (by omega))
    refine this.from ?_ ?_ ?_
    · rw [e1]; exact hKeep.refl _
    · rw [e2]; exact Int.le_refl _
    · intro z; rw [e2]; exact z
theorem hold_ne {h : SH} (hI : hInv h) {u : Nat} (hu : (u : Int) < (hTh h).toInt) : u ≠ ix (hTh h) := by rw [ix_eq]; omega
theorem hCopy_inv {h : SH} (hI : hInv h) {t : Int32} (ha : hIsArray h t = true) : hInv (hCopy h t).2 ∧ ((hCopy h t).1 = -1 ∨ ∃ q : Nat, (q : Int) < (hTh (hCopy h t).2).toInt ∧ (hCopy h t).1.toInt64 = lN q) ∧ (∀ j, ∃ q, hRe (hCopy h t).2 j = hRe h q) ∧ hKeep h (hCopy h t).2 := by
  obtain ⟨a1, a2, a3, a4, a5, a6, a7, a8, a9⟩ := arr_all hI ha
  obtain ⟨f1, f2, f3, f4, f5⟩ := thing_facts hI a2
  rw [← a1] at f4
  have eT : hTypeOf h t = hTy h (ix t) := by unfold hTypeOf; rw [f4]; rfl
  have eL : hLenOf h t = hLe h (ix t) := by unfold hLenOf; rw [f4]; rfl
  have htA : tIsArr (hTy h (ix t)) = true := by
    have h16 := (hI.2.1 _ a2).2.2 a3
    unfold tIsArr
    rw [f5, decide_eq_false (show ¬ hTy h (ix t) < 16 from fun z => by have := i_lt z; have e : (16 : Int32).toInt = 16 := rfl; omega)]
    rfl
  have j := hInv_MA hI (n := hLe h (ix t)) htA
  have jk := hMA_keep (t := hTy h (ix t)) (n := hLe h (ix t)) hI.1
  unfold hCopy
  rw [eT, eL]
  by_cases hz : (hMA h (hTy h (ix t)) (hLe h (ix t))).1 = -1
  · rw [decide_eq_true hz, cond_true]
    exact ⟨j.1, j.2.1, fun q => ⟨q, by rw [j.2.2]⟩, jk⟩
  · rw [decide_eq_false hz, cond_false]
    rcases hMA_cases hI (n := hLe h (ix t)) htA with x | ⟨x, y, z⟩
    · rw [x] at hz; exact absurd rfl hz
    · obtain ⟨r1, r2⟩ := (uRoom_iff hI.1 x).mp y
      obtain ⟨k1, k2⟩ := hInv_mk hI r1 (Or.inr ⟨htA, x, r2⟩)
      have h0 := hI.1.1
      have hne := hold_ne hI a2
      have kk := jk.2 _ a2
      rw [z] at j jk kk ⊢
      have c := hInv_cpy k1 (f := ix t) (t := ix (hTh h)) (a := hSt h (ix t)) (b := hEl h) (n := hLe h (ix t)) (s := 0) (p := 0) (by rw [k2]; omega) (by rw [k2, ix_eq]; omega) (by rw [kk.2.2]; exact a3) (by show ¬ x_up _ _ _ _ = _; rw [x_up_self]; exact a3) ?_ (by rw [kk.2.1]; rfl) (by show _ = ix (x_up _ _ _ _) + 0; rw [x_up_self]; rfl) (by rw [kk.2.2, ix_eq]; omega) (by show _ ≤ (x_up _ _ _ _ : Int32).toInt; rw [x_up_self, ix_eq]; omega)
      · refine ⟨c.1, ?_, ?_, jk.trans c.2.1⟩
        · rcases j.2.1 with w | ⟨q, w1, w2⟩
          · exact Or.inl w
          · exact Or.inr ⟨q, w1, w2⟩
        · intro q
          obtain ⟨w, e⟩ := c.2.2 q
          exact ⟨w, by rw [e, j.2.2]⟩
      · intro w
        have w : 24 ≤ (x_up (hTy h) (ix (hTh h)) (hTy h (ix t)) (ix (hTh h))).toInt := w
        rw [x_up_self] at w
        rw [kk.1]
        exact w
theorem hMove_inv {h : SH} (hI : hInv h) {f s t p n : Int32} : hInv (hMove h f s t p n).2 ∧ (∀ j, ∃ q, hRe (hMove h f s t p n).2 j = hRe h q) ∧ hKeep h (hMove h f s t p n).2 ∧ ((hMove h f s t p n).1 = 0 ∨ 0 < (hMove h f s t p n).1.toInt) := by
  unfold hMove
  cases h1 : ((hNums h t != hNums h f) || (hNums h t && !decide (hTyEl h t = hTyEl h f)))
  · simp only [cond_false]
    cases h2 : (hHasEls h f s n && hHasEls h t p n)
    · exact ⟨hI, fun j => ⟨j, rfl⟩, hKeep.refl _, Or.inr (show 0 < (2 : Int32).toInt by decide)⟩
    · simp only [Bool.not_true, cond_false]
      obtain ⟨e1, e2⟩ := Bool.and_eq_true_iff.mp h2
      obtain ⟨f1, f2, f3, f4, f5, f6, f7⟩ := hHasEls_rng hI.1 e1
      obtain ⟨g1, g2, g3, g4, g5, g6, g7⟩ := hHasEls_rng hI.1 e2
      obtain ⟨a1, a2, a3⟩ := arr_nI hI.1 f1
      obtain ⟨b1, b2, b3⟩ := arr_nI hI.1 g1
      have hty : 24 ≤ (hTy h (ix t)).toInt → 24 ≤ (hTy h (ix f)).toInt := by
        intro w
        have q1 := hNums_rng hI f1
        have q2 := hNums_rng hI g1
        by_cases w2 : (hTy h (ix f)).toInt < 24
        · have w3 := q1.mpr w2
          rw [w3] at h1
          have w4 : hNums h t = false := by
            cases hz : hNums h t
            · rfl
            · have := q2.mp hz; omega
          rw [w4] at h1
          cases h1
        · omega
      have hc : ∀ m : Int32, 0 ≤ m.toInt → m.toInt ≤ n.toInt → hInv (hCpy h (hSt h (ix f) + s) (hSt h (ix t) + p) m) ∧ hKeep h (hCpy h (hSt h (ix f) + s) (hSt h (ix t) + p) m) ∧ (∀ j, ∃ q, hRe (hCpy h (hSt h (ix f) + s) (hSt h (ix t) + p) m) j = hRe h q) := by
        intro m hm1 hm2
        have x1 := ix_eq (hSt h (ix f) + s)
        have x2 := ix_eq (hSt h (ix t) + p)
        have x3 := ix_eq (hSt h (ix f))
        have x4 := ix_eq (hSt h (ix t))
        have x5 := ix_eq s
        have x6 := ix_eq p
        have x7 := ix_eq m
        exact hInv_cpy hI (s := ix s) (p := ix p) a2 b2 a3 b3 hty (by omega) (by omega) (by omega) (by omega)
      cases hNums h t
      · simp only [cond_false]
        have hle := hFits_le (h := h) (f := f) (s := s) (ty := hTyEl h t) (ix n) 0
        have hx := ix_eq n
        have hr := i_rng n
        have e : (nI (hFits h f s (hTyEl h t) (ix n) 0)).toInt = (hFits h f s (hTyEl h t) (ix n) 0 : Nat) := nI_toInt (by omega)
        obtain ⟨c1, c2, c3⟩ := hc (nI (hFits h f s (hTyEl h t) (ix n) 0)) (by omega) (by omega)
        refine ⟨c1, c3, c2, ?_⟩
        cases decide (nI (hFits h f s (hTyEl h t) (ix n) 0) = n)
        · exact Or.inr (show 0 < (3 : Int32).toInt by decide)
        · exact Or.inl rfl
      · obtain ⟨c1, c2, c3⟩ := hc n g3 (Int.le_refl _)
        exact ⟨c1, c3, c2, Or.inl rfl⟩
  · exact ⟨hI, fun j => ⟨j, rfl⟩, hKeep.refl _, Or.inr (show 0 < (3 : Int32).toInt by decide)⟩
end INVF
