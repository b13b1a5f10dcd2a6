/-! the rest of the nodes, and ev -/
section INVG
variable {G : Int → UInt64 → Prop} {κ : Int} {S : SS} {b : Int32} {P : SP} {E : Int32 → SS → SO}
theorem oArr_T {S : SS} {n : Int32} (h : (oArr S n).1 = true) : rK S.2.2 = 1 ∨ (rK S.2.2 = 2 ∧ hIsArray S.1 (rA S.2.2).toInt32 = true) := by
  unfold oArr at h
  by_cases h1 : rK S.2.2 = 1
  · exact Or.inl h1
  · rw [decide_eq_false h1, Bool.false_or] at h
    cases hz : (decide (rK S.2.2 = 2) && hIsArray S.1 (rA S.2.2).toInt32)
    · rw [hz] at h; cases h
    · obtain ⟨a, c⟩ := Bool.and_eq_true_iff.mp hz
      exact Or.inr ⟨of_decide_eq_true a, c⟩
theorem RR_with {n : Int32} (go : GO G) (ea : EA G E) (hI : Inv G κ S) (hb : vH S.2.1 = b) : RR G κ S b (eWith P E n S) := by
  unfold eWith
  refine (ea.at hI hb _).and go (fun hx => ?_)
  have h := ea.at hI hb (pa P (ix n))
  generalize (E (pa P (ix n)) S) = x at *
  refine (RR_arr h.1 h.2.2.1 (h.2.1 hx)).and go (fun hy => ?_)
  rw [oArr_same hy]
  by_cases h1 : rK x.2.2.2 = 1
  · rw [decide_eq_true h1]
    exact RR_fail h.1 h.2.2.1 (by decide)
  · rw [decide_eq_false h1, cond_false]
    have ha := ((oArr_T hy).resolve_left h1).2
    cases decide (pC P (ix n) = 17)
    · simp only [cond_false]
      cases decide (pC P (ix n) = 21)
      · exact RR_give h.1 h.2.2.1 vOK0
      · simp only [cond_true]
        obtain ⟨a1, a2, a3⟩ := arr_nI h.1.1.1 ha
        have f4 := (thing_facts h.1.1 a2).2.2.2.1
        rw [← a1] at f4
        have eL : hLenOf x.2.1 (rA x.2.2.2).toInt32 = hLe x.2.1 (ix (rA x.2.2.2).toInt32) := by unfold hLenOf; rw [f4]; rfl
        exact RR_eachL go ea _ 0 _ h.1 h.2.2.1 ha eL.symm (Nat.zero_add _)
    · simp only [cond_true]
      obtain ⟨c1, c2, c3, c4⟩ := hCopy_inv h.1.1 ha
      exact RR_made h.1 h.2.2.1 c1 c4 c3 c2
theorem oAdd_T {S : SS} {n t : Int32} (h : (oAdd S n t).1 = true) : hNums S.1 t = true ∧ oAdd S n t = (true, S) := by
  unfold oAdd at h ⊢
  cases hz : (hNums S.1 t && !decide (hTyEl S.1 t = 0))
  · rw [hz] at h; cases h
  · exact ⟨(Bool.and_eq_true_iff.mp hz).1, rfl⟩
theorem oAdd_F {S : SS} {n t : Int32} (h : (oAdd S n t).1 = false) : oAdd S n t = (false, sFail S 9 n) := by
  unfold oAdd at h ⊢
  cases hz : (hNums S.1 t && !decide (hTyEl S.1 t = 0))
  · rfl
  · rw [hz] at h; cases h
theorem Inv_reAt (go : GO G) (hI : Inv G κ S) (t i : Int32) : G (κ + (rN S.2.2).toInt) (hReAt S.1 t i) := by
  unfold hReAt
  cases hHasEl S.1 t i
  · exact go.2.1 _ (by have := hI.2.2.2.2.2.2.2.1.1; omega)
  · exact hI.2.2.2.2.2.2.2.2 _
theorem oEl_T {S : SS} {n t i : Int32} (h : (oEl S n t i).1 = true) : hHasEl S.1 t i = true ∧ ¬ t = -1 := by
  unfold oEl at h
  by_cases h1 : t = -1
  · rw [decide_eq_true h1] at h; cases h
  · rw [decide_eq_false h1, cond_false] at h
    cases hz : hHasEl S.1 t i
    · rw [hz] at h; cases h
    · exact ⟨rfl, h1⟩
theorem RR_place {n t i : Int32} (go : GO G) (ea : EA G E) (hκ : κ ≤ gB) (hI : Inv G (κ - 1) S) (hb : vH S.2.1 = b) (he : hHasEl S.1 t i = true) (hv : vOK S.1 (rK S.2.2) (rA S.2.2)) : RR G κ S b (ePlace P E n t i S) := by
  have hle : κ - 1 ≤ κ := by omega
  unfold ePlace
  cases decide (pC P (ix n) = 14)
  · cases decide (pC P (ix n) = 15)
    · cases decide (pC P (ix n) = 16)
      · exact (RR_giveEl hI hb he).up go hle hκ
      · simp only [cond_true, cond_false]
        unfold oStep
        cases ha : (oAdd S n t).1
        · rw [oAdd_F ha]
          exact (RR_fail hI hb (by decide)).up go hle hκ
        · exact RR_sum go hI hκ hb (oAdd_T ha).1 (Inv_reAt go hI t i) (el_vOK hI.1 he)
    · simp only [cond_true, cond_false]
      unfold eAdd
      have hadd : RR G (κ - 1) S b (oAdd S n t) := by
        cases ha : (oAdd S n t).1
        · rw [oAdd_F ha]
          exact RR_fail hI hb (by decide)
        · rw [(oAdd_T ha).2]
          exact RR_same hI hb hv
      refine hadd.and2 go hle hκ (fun _ => rfl) (fun ha => ?_)
      · have hn := (oAdd_T ha).1
        rw [oAdd_same ha]
        have h := ea.at hI hb (pc' P (ix n))
        refine h.and2 go hle hκ (fun _ => rfl) (fun hx => ?_)
        generalize (E (pc' P (ix n)) S) = x at *
        refine (RR_num h.1 h.2.2.1 (h.2.1 hx)).and2 go hle hκ (fun _ => rfl) (fun hy => ?_)
        rw [oNum_same hy]
        have harr := hHasEl_arr he
        have ka := hKeep_arr h.2.2.2.1 hI.1.1 harr
        have hn2 : hNums x.2.1 t = true := by
          unfold hNums at hn ⊢
          rw [ka.2.2]
          exact hn
        have hr : G (κ - 1 + (rN x.2.2.2).toInt) (hReAt S.1 t i) := go.2.2.1 _ _ _ (Inv_reAt go hI t i) (by have := h.2.2.2.2.1; omega)
        have ks := (hInv_sum h.1.1 (t := t) (i := i) (a := hAmAt S.1 t i) (r := hReAt S.1 t i) (m := rA x.2.2.2) hn2).2.1
        have kb := hKeep_arr ks h.1.1.1 ka.1
        have hk : hKindAt (hSum x.2.1 t i (hAmAt S.1 t i) (hReAt S.1 t i) (rA x.2.2.2)) t i = 0 := by
          have : hNums (hSum x.2.1 t i (hAmAt S.1 t i) (hReAt S.1 t i) (rA x.2.2.2)) t = true := by
            unfold hNums at hn2 ⊢
            rw [kb.2.2]
            exact hn2
          unfold hKindAt
          rw [this]
          rfl
        unfold sGiveEl
        show RR G κ x.2 b (true, sGive (hSum x.2.1 t i (hAmAt S.1 t i) (hReAt S.1 t i) (rA x.2.2.2), x.2.2) (hKindAt (hSum x.2.1 t i (hAmAt S.1 t i) (hReAt S.1 t i) (rA x.2.2.2)) t i) (hAmAt (hSum x.2.1 t i (hAmAt S.1 t i) (hReAt S.1 t i) (rA x.2.2.2)) t i))
        rw [hk]
        exact RR_sum go h.1 hκ h.2.2.1 hn2 hr vOK0
  · simp only [cond_true]
    have hp := RR_put (n := n) (t := t) (i := i) go hI hb hv
    refine hp.and2 go hle hκ (fun _ => rfl) (fun hx => ?_)
    exact (RR_giveEl hp.1 hp.2.2.1 (hKeep_el hp.2.2.2.1 hI.1.1 he)).up go hle hκ
theorem RR_atPlace {n : Int32} (go : GO G) (ea : EA G E) (hκ : κ ≤ gB) (hI : Inv G (κ - 1) S) (hb : vH S.2.1 = b) : RR G κ S b (eAtPlace P E n S) := by
  have hle : κ - 1 ≤ κ := by omega
  unfold eAtPlace
  refine (ea.at hI hb _).and2 go hle hκ (fun _ => rfl) (fun hx => ?_)
  have h := ea.at hI hb (pa P (ix n))
  generalize (E (pa P (ix n)) S) = x1 at *
  refine (RR_arr h.1 h.2.2.1 (h.2.1 hx)).and2 go hle hκ (fun _ => rfl) (fun hy => ?_)
  rw [oArr_same hy]
  refine (ea.at h.1 h.2.2.1 _).and2 go hle hκ (fun _ => rfl) (fun hx => ?_)
  have h2 := ea.at h.1 h.2.2.1 (pb P (ix n))
  generalize (E (pb P (ix n)) x1.2) = x2 at *
  refine (RR_num h2.1 h2.2.2.1 (h2.2.1 hx)).and2 go hle hκ (fun _ => rfl) (fun hy => ?_)
  rw [oNum_same hy]
  have h3 : RR G (κ - 1) x2.2 b (bif decide (pC P (ix n) = 14) then E (pc' P (ix n)) x2.2 else (true, x2.2)) := by
    cases decide (pC P (ix n) = 14)
    · exact RR_same h2.1 h2.2.2.1 (h2.2.1 hx)
    · exact ea.at h2.1 h2.2.2.1 _
  refine h3.and2 go hle hκ (fun _ => rfl) (fun hx => ?_)
  generalize (bif decide (pC P (ix n) = 14) then E (pc' P (ix n)) x2.2 else (true, x2.2)) = x3 at *
  refine (RR_el h3.1 h3.2.2.1 (h3.2.1 hx)).and2 go hle hκ (fun _ => rfl) (fun hy => ?_)
  rw [oEl_same hy]
  exact RR_place go ea hκ h3.1 h3.2.2.1 (oEl_T hy).1 (h3.2.1 hx)
theorem RR_moved {n f s t p c : Int32} (hI : Inv G κ S) (hb : vH S.2.1 = b) : RR G κ S b (oMove n f s t p c S) := by
  obtain ⟨m1, m2, m3, m4⟩ := hMove_inv hI.1 (f := f) (s := s) (t := t) (p := p) (n := c)
  have hI2 := RR_heap hI m1 m3 m2
  unfold oMove
  cases (decide (f = -1) || decide (t = -1))
  · simp only [cond_false]
    by_cases hz : (hMove S.1 f s t p c).1 = 0
    · rw [decide_eq_true hz]
      exact (RR_give hI2 hb vOK0).from m3 (Int.le_refl _) (fun z => z)
    · rw [decide_eq_false hz]
      exact (RR_fail hI2 hb (m4.resolve_left hz)).from m3 (Int.le_refl _) (fun z => z)
  · exact RR_fail hI hb (by decide)
theorem RR_move {n : Int32} (go : GO G) (ea : EA G E) (hI : Inv G κ S) (hb : vH S.2.1 = b) : RR G κ S b (eMove P E n S) := by
  unfold eMove
  refine (ea.at hI hb _).and go (fun hx => ?_)
  have h1 := ea.at hI hb (pa P (ix n))
  generalize (E (pa P (ix n)) S) = x1 at *
  refine (RR_arr h1.1 h1.2.2.1 (h1.2.1 hx)).and go (fun hy => ?_)
  rw [oArr_same hy]
  refine (ea.at h1.1 h1.2.2.1 _).and go (fun hx => ?_)
  have h2 := ea.at h1.1 h1.2.2.1 (pb P (ix n))
  generalize (E (pb P (ix n)) x1.2) = x2 at *
  refine (RR_num h2.1 h2.2.2.1 (h2.2.1 hx)).and go (fun hy => ?_)
  rw [oNum_same hy]
  refine (ea.at h2.1 h2.2.2.1 _).and go (fun hx => ?_)
  have h3 := ea.at h2.1 h2.2.2.1 (pc' P (ix n))
  generalize (E (pc' P (ix n)) x2.2) = x3 at *
  refine (RR_arr h3.1 h3.2.2.1 (h3.2.1 hx)).and go (fun hy => ?_)
  rw [oArr_same hy]
  refine (ea.at h3.1 h3.2.2.1 _).and go (fun hx => ?_)
  have h4 := ea.at h3.1 h3.2.2.1 (pNth P (pd P (ix n)) 0)
  generalize (E (pNth P (pd P (ix n)) 0) x3.2) = x4 at *
  refine (RR_num h4.1 h4.2.2.1 (h4.2.1 hx)).and go (fun hy => ?_)
  rw [oNum_same hy]
  refine (ea.at h4.1 h4.2.2.1 _).and go (fun hx => ?_)
  have h5 := ea.at h4.1 h4.2.2.1 (pNth P (pd P (ix n)) 1)
  generalize (E (pNth P (pd P (ix n)) 1) x4.2) = x5 at *
  refine (RR_num h5.1 h5.2.2.1 (h5.2.1 hx)).and go (fun hy => ?_)
  rw [oNum_same hy]
  exact RR_moved h5.1 h5.2.2.1
theorem tArr_less : ∀ q, q < 64 → tIsArr (nI q) = true → (¬ nI q / 16 < 2 → tIsArr (nI q - 16) = true) ∧ (¬ nI q / 16 ≤ 2 → tIsArr (nI q - 16 - 16) = true) := by decide +kernel
theorem tArr_dims {t : Int32} (h : tIsArr t = true) : (¬ t / 16 < 2 → tIsArr (t - 16) = true) ∧ (¬ t / 16 ≤ 2 → tIsArr (t - 16 - 16) = true) := by
  have hr := tIsType_rng (tIsArr_T h).1
  have e := nI_toI hr.1
  have := tArr_less t.toInt.toNat (by omega) (by rw [← e]; exact h)
  rw [← e] at this
  exact this
theorem pSizes_dims {P : SP} {t b c e : Int32} (ht : tIsArr t = true) (h : pSizes P (t / 16) b c e = true) : (c = -1 ∨ tIsArr (t - 16) = true) ∧ (e = -1 ∨ tIsArr (t - 16 - 16) = true) ∧ (c = -1 → e = -1) := by
  unfold pSizes at h
  obtain ⟨h1, h2⟩ := Bool.and_eq_true_iff.mp h
  by_cases hc : c = -1
  · rw [decide_eq_true hc, cond_true] at h2
    have he : e = -1 := of_decide_eq_true h2
    exact ⟨Or.inl hc, Or.inl he, fun _ => he⟩
  · rw [decide_eq_false hc, cond_false] at h2
    obtain ⟨h3, h4⟩ := Bool.and_eq_true_iff.mp h2
    obtain ⟨h5, h6⟩ := Bool.and_eq_true_iff.mp h4
    have h3 : ¬ t / 16 < 2 := by
      simp only [Bool.not_eq_true', decide_eq_false_iff_not] at h3
      exact h3
    refine ⟨Or.inr ((tArr_dims ht).1 h3), ?_, fun z => absurd z hc⟩
    by_cases he : e = -1
    · exact Or.inl he
    · rw [decide_eq_false he, Bool.false_or] at h6
      obtain ⟨h7, h8⟩ := Bool.and_eq_true_iff.mp h6
      have h7 : ¬ t / 16 ≤ 2 := by
        simp only [Bool.not_eq_true', decide_eq_false_iff_not] at h7
        exact h7
      exact Or.inr ((tArr_dims ht).2 h7)
set_option maxRecDepth 100000 in
set_option maxHeartbeats 1000000 in
theorem RR_node {n : Int32} (hw : pWF P) (hn : pIsNode P n = true) (go : GO G) (ea : EA G E) (hκ : κ ≤ gB) (hI : Inv G (κ - 1) S) (hN : Inv G (κ - 1) (sNote S (pa P (ix n)))) (hb : vH S.2.1 = b) : RR G κ S b (eNode P E n S) := by
  have hle : κ - 1 ≤ κ := by omega
  have hfit := pFit hw hn
  have hflow : RR G κ S b (eFlow P E n S) := (RR_flow go ea hI hb (fun _ => hN)).up go hle hκ
  have htwo : RR G κ S b (eTwo P E n S) := (RR_two go ea hI hb).up go hle hκ
  have hwith : RR G κ S b (eWith P E n S) := (RR_with go ea hI hb).up go hle hκ
  have hplace : RR G κ S b (eAtPlace P E n S) := RR_atPlace go ea hκ hI hb
  have hmove : RR G κ S b (eMove P E n S) := (RR_move go ea hI hb).up go hle hκ
  have hgive : ∀ a : Int64, RR G κ S b (true, sGive S 0 a) := fun a => (RR_give hI hb vOK0).up go hle hκ
  unfold eNode
  by_cases h0 : pC P (ix n) = 0
  · rw [decide_eq_true h0]; exact hgive _
  rw [decide_eq_false h0, cond_false]
  by_cases h1 : pC P (ix n) = 1
  · rw [decide_eq_true h1]; exact (RR_give hI hb (Or.inr (Or.inl ⟨rfl, rfl⟩))).up go hle hκ
  rw [decide_eq_false h1, cond_false]
  by_cases h2 : pC P (ix n) = 2
  · rw [decide_eq_true h2, cond_true]
    unfold sGiveVar
    cases isVar (pa P (ix n))
    · exact hgive _
    · exact (RR_give hI hb (hI.2.1 _)).up go hle hκ
  rw [decide_eq_false h2, cond_false]
  by_cases h3 : pC P (ix n) = 3
  · rw [decide_eq_true h3]; exact hflow
  rw [decide_eq_false h3, cond_false]
  by_cases h4 : pC P (ix n) = 4
  · rw [decide_eq_true h4]; exact hflow
  rw [decide_eq_false h4, cond_false]
  by_cases h5 : pC P (ix n) = 5
  · rw [decide_eq_true h5]; exact (RR_fail hI hb (by decide)).up go hle hκ
  rw [decide_eq_false h5, cond_false]
  by_cases h6 : pC P (ix n) = 6
  · rw [decide_eq_true h6]; exact htwo
  rw [decide_eq_false h6, cond_false]
  by_cases h7 : pC P (ix n) = 7
  · rw [decide_eq_true h7]; exact htwo
  rw [decide_eq_false h7, cond_false]
  by_cases h8 : pC P (ix n) = 8
  · rw [decide_eq_true h8, cond_true]
    rw [h8] at hfit
    have hty : tIsInst (pa P (ix n)) = true := hfit
    refine RR.up go hle hκ ?_
    by_cases hz : hTh S.1 < 400
    · have e : hMk S.1 (pa P (ix n)) (-1) 0 = (hTh S.1, uMk S.1 (pa P (ix n)) (-1)) := by rw [hMk_T hz]; rfl
      have hk := hMk_keep (t := pa P (ix n)) (l := -1) (n := 0) hI.1.1
      rw [e] at hk ⊢
      obtain ⟨k1, k2⟩ := hInv_mk hI.1 (t := pa P (ix n)) (l := -1) hz (Or.inl ⟨rfl, hty⟩)
      have hh0 := hI.1.1.1
      have hh1 := hI.1.1.2.1
      refine RR_made hI hb k1 hk (fun j => ⟨j, rfl⟩) (Or.inr ⟨ix (hTh S.1), ?_, ?_⟩)
      · rw [k2, ix_eq]; omega
      · have e := nI_toI hh0
        have e2 := nI_l (n := (hTh S.1).toInt.toNat) (by omega)
        rw [← e] at e2
        exact e2
    · rw [hMk_F hz]
      exact RR_made hI hb hI.1 (hKeep.refl _) (fun j => ⟨j, rfl⟩) (Or.inl rfl)
  rw [decide_eq_false h8, cond_false]
  by_cases h9 : pC P (ix n) = 9
  · rw [decide_eq_true h9, cond_true]
    rw [h9] at hfit
    obtain ⟨g1, g2⟩ := Bool.and_eq_true_iff.mp (show (tIsArr (pa P (ix n)) && pSizes (pPre P (ix n)) (pa P (ix n) / 16) (pb P (ix n)) (pc' P (ix n)) (pd P (ix n))) = true from hfit)
    have := pSizes_dims g1 g2
    exact (RR_make go ea hI hb g1 this.1 this.2.1).up go hle hκ
  rw [decide_eq_false h9, cond_false]
  by_cases h10 : pC P (ix n) = 10
  · rw [decide_eq_true h10]; exact hflow
  rw [decide_eq_false h10, cond_false]
  by_cases h11 : pC P (ix n) = 11
  · rw [decide_eq_true h11]
    rw [h11] at hfit
    obtain ⟨g1, g2⟩ := Bool.and_eq_true_iff.mp (show (tIsArr (pa P (ix n)) && pIsLN (pPre P (ix n)) (pb P (ix n))) = true from hfit)
    exact (RR_filled go ea hI hb g1).up go hle hκ
  rw [decide_eq_false h11, cond_false]
  by_cases h12 : pC P (ix n) = 12
  · rw [decide_eq_true h12]; exact hwith
  rw [decide_eq_false h12, cond_false]
  by_cases h13 : pC P (ix n) = 13
  · rw [decide_eq_true h13]; exact hplace
  rw [decide_eq_false h13, cond_false]
  by_cases h14 : pC P (ix n) = 14
  · rw [decide_eq_true h14]; exact hplace
  rw [decide_eq_false h14, cond_false]
  by_cases h15 : pC P (ix n) = 15
  · rw [decide_eq_true h15]; exact hplace
  rw [decide_eq_false h15, cond_false]
  by_cases h16 : pC P (ix n) = 16
  · rw [decide_eq_true h16]; exact hplace
  rw [decide_eq_false h16, cond_false]
  by_cases h17 : pC P (ix n) = 17
  · rw [decide_eq_true h17]; exact hwith
  rw [decide_eq_false h17, cond_false]
  by_cases h18 : pC P (ix n) = 18
  · rw [decide_eq_true h18]; exact hflow
  rw [decide_eq_false h18, cond_false]
  by_cases h19 : pC P (ix n) = 19
  · rw [decide_eq_true h19]; exact hflow
  rw [decide_eq_false h19, cond_false]
  by_cases h20 : pC P (ix n) = 20
  · rw [decide_eq_true h20]; exact htwo
  rw [decide_eq_false h20, cond_false]
  by_cases h21 : pC P (ix n) = 21
  · rw [decide_eq_true h21]; exact hwith
  rw [decide_eq_false h21, cond_false]
  by_cases h22 : pC P (ix n) = 22
  · rw [decide_eq_true h22]
    rw [h22] at hfit
    obtain ⟨g1, g2⟩ := Bool.and_eq_true_iff.mp (show (tIsArr (pa P (ix n)) && pIsLN (pPre P (ix n)) (pb P (ix n))) = true from hfit)
    exact (RR_varied go ea hI hb g1).up go hle hκ
  rw [decide_eq_false h22, cond_false]
  by_cases h23 : pC P (ix n) = 23
  · rw [decide_eq_true h23]; exact hflow
  rw [decide_eq_false h23, cond_false]
  by_cases h24 : pC P (ix n) = 24
  · rw [decide_eq_true h24]; exact hflow
  rw [decide_eq_false h24, cond_false]
  by_cases h25 : pC P (ix n) = 25
  · rw [decide_eq_true h25]; exact hflow
  rw [decide_eq_false h25, cond_false]
  by_cases h26 : pC P (ix n) = 26
  · rw [decide_eq_true h26]; exact hmove
  rw [decide_eq_false h26, cond_false]
  exact hflow
theorem ev_EA (hw : pWF P) (go : GO G) : ∀ f, EA G (ev P f)
  | 0 => fun κ c S hI => RR_fail hI rfl (by decide)
  | f + 1 => fun κ c S hI => by
    unfold ev
    cases h1 : pIsNode P c
    · exact RR_fail hI rfl (by decide)
    · simp only [Bool.not_true, cond_false]
      cases pIsList P c
      · simp only [cond_false]
        by_cases hN : rN S.2.2 < 3000
        · rw [decide_eq_true hN]
          simp only [Bool.not_true, cond_false]
          refine (RR_node hw h1 go (ev_EA hw go f) (Inv_gB hI) (Inv_work hI hN) (Inv_note hI hN _) rfl).from (hKeep.refl _) ?_ (fun z => z)
          have h2 := i_lt hN
          have e3 : (3000 : Int32).toInt = 3000 := rfl
          have e1 : (rN S.2.2 + 1).toInt = (rN S.2.2).toInt + 1 := i_add1 (n := 3000) (by have := hI.2.2.2.2.1; omega) hI.2.2.2.2.2.1 (by omega)
          show (rN S.2.2).toInt ≤ (rN S.2.2 + 1).toInt
          omega
        · rw [decide_eq_false hN]
          exact RR_fail hI rfl (by decide)
      · exact RR_fail hI rfl (by decide)
end INVG
