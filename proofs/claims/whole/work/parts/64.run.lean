/-! RUNS, of both -/
def JV (G : Int → UInt64 → Prop) (κ : Int) (S : SS) : Prop := Inv G κ S ∧ vOK S.1 (rK S.2.2) (rA S.2.2)
theorem JO_inv {P : SP} {G : Int → UInt64 → Prop} (hw : pWF P) (go : GO G) : JO P (Inv G) (JV G) := by
  refine ⟨?_, ?_, ?_, ?_, ?_, ?_, ?_, ?_, ?_, ?_, ?_⟩
  · intro k S hI
    exact ⟨hI.1.1, hI.2.2.2.1, hI.2.2.2.2.1.1⟩
  · intro k S hV
    exact hV.1
  · intro k S hI hn
    exact Inv_work hI hn
  · intro k S a hI hn
    exact Inv_note hI hn a
  · intro k S n hI h
    exact Inv_take hI h
  · intro k S n hI hn hc hne
    have hfit := pFit hw hn
    rw [hc] at hfit
    obtain ⟨g1, g2⟩ := Bool.and_eq_true_iff.mp (show (tIsArr (pa P (ix n)) && pIsLN (pPre P (ix n)) (pb P (ix n))) = true from hfit)
    obtain ⟨j1, j2, j3⟩ := hInv_MA hI.1 (n := pLen P (pb P (ix n))) g1
    exact RR_heap hI j1 (hMA_keep hI.1.1) (fun j => ⟨j, by rw [j3]⟩)
  · intro k S n t i hV h
    exact (RR_put (b := vH S.2.1) (n := n) (t := t) (i := i) go hV.1 rfl hV.2).1
  · intro k S n hV h
    unfold oHold at h ⊢
    by_cases hh : vH S.2.1 < 1600
    · rw [decide_eq_true hh]
      exact Inv_hold hV.1 hV.2 hh
    · rw [decide_eq_false hh] at h
      cases h
  · intro k S v t i hI he
    exact Inv_var hI (el_vOK hI.1 he)
  · intro k S hI j m
    exact Inv_fOK go hI (hI.2.2.2.2.2.2.2.2 j) m
  · intro m
    have g := go.1 0 _ (go.2.1 0 (by omega)) (by unfold gB; omega) m
    exact ⟨g.1.1, g.2.1⟩
def CI (G : Int → UInt64 → Prop) (κ : Int) (S : SS) : Prop := hInv S.1 ∧ (∀ j, vOK S.1 (vK S.2.1 j) (vA S.2.1 j)) ∧ (∀ j, vOK S.1 (vHK S.2.1 j) (vHA S.2.1 j)) ∧ 1 ≤ κ ∧ (∀ j, G κ (hRe S.1 j)) ∧ 0 ≤ (rT S.2.2).toInt
theorem CI_start {G : Int → UInt64 → Prop} {κ : Int} {S : SS} (h : CI G κ S) (hκ : κ ≤ gB) : Inv G κ (sStart S) := by
  obtain ⟨h1, h2, h3, h4, h5, h6⟩ := h
  have z : (0 : Int32).toInt = 0 := rfl
  refine ⟨h1, h2, h3, ⟨by show 0 ≤ (0 : Int32).toInt; decide, by show (0 : Int32).toInt ≤ 1600; decide⟩, ⟨by show 0 ≤ (0 : Int32).toInt; decide, by show (0 : Int32).toInt ≤ (0 : Int32).toInt; decide⟩, by show (0 : Int32).toInt ≤ 3000; decide, ⟨by show 0 ≤ (0 : Int32).toInt; decide, by show (0 : Int32).toInt ≤ 40; decide⟩, ⟨by show 1 ≤ κ + (0 : Int32).toInt; omega, hκ⟩, ?_⟩
  intro j
  show G (κ + (0 : Int32).toInt) _
  rw [z, Int.add_zero]
  exact h5 j
theorem Inv_CI {G : Int → UInt64 → Prop} {κ : Int} {S : SS} (go : GO G) (hκ : 1 ≤ κ) (h : Inv G κ S) : CI G (κ + 3000) S := by
  refine ⟨h.1, h.2.1, h.2.2.1, by omega, ?_, h.2.2.2.2.1.1⟩
  intro j
  have := h.2.2.2.2.2.1
  exact go.2.2.1 _ _ _ (h.2.2.2.2.2.2.2.2 j) (by omega)
theorem sFin_CI {G : Int → UInt64 → Prop} {κ : Int} {X : SO} (go : GO G) (hκ : 1 ≤ κ) (h : Inv G κ X.2) : CI G (κ + 3000) (sFin X).2 := by
  unfold sFin
  cases X.1
  · exact Inv_CI go hκ (Inv_give h 0 0)
  · exact Inv_CI go hκ h
theorem sRun_CI {P : SP} {G : Int → UInt64 → Prop} {κ : Int} {S : SS} (hw : pWF P) (go : GO G) (h : CI G κ S) (hκ : κ ≤ gB) (n : Int32) : CI G (κ + 3000) (sRun P n S).2 :=
  sFin_CI go h.2.2.2.1 (ev_EA hw go 80 κ n _ (CI_start h hκ)).1
set_option maxRecDepth 100000 in
set_option maxHeartbeats 1000000 in
theorem k_run2 {D : Nat} (hD : 250 ≤ D) {P : SP} {G : Int → UInt64 → Prop} {κ : Int} {S : SS} {Q : xQ} (hw : pWF P) (f1 : fOK1) (go : GO G) (hC : CI G κ S) (hκ : κ ≤ gB) (n : Int32) (h1 : pIsNode P n = true → Q (some (.int (sRun P n S).1)) (wC P (sRun P n S).2)) (h0 : pIsNode P n = false → Q (some (.int (-2))) (wC P S)) : Cd D 82 [.ref 0, .int n] (wC P S) Q := by
  refine k_run (e := 249) hD (by decide) n (sRun P n S) ?_ h1 h0
  intro hn Q h
  refine s_start (d := 248) (by decide) (by decide) n (ev P 80 n (sStart S)) ?_ h
  intro Q h
  refine c_ev (J := Inv G) (V := JV G) hw.1 f1 (JO_inv hw go) ?_ ?_ ?_ 80 (Nat.le_refl _) κ n (sStart S) Q (CI_start hC hκ) h
  · intro f k n S hI
    obtain ⟨r1, r2, r3, r4, r5, r6⟩ := ev_EA hw go f k n S hI
    exact ⟨r1, fun z => ⟨r1, r2 z⟩⟩
  · intro f kk x S t hI ha
    obtain ⟨r1, r2, r3, r4, r5, r6⟩ := ev_EA hw go f kk x S hI
    have := hKeep_arr r4 hI.1.1 ha
    exact ⟨this.1, this.2.1⟩
  · intro n hn hc
    have hfit := pFit hw hn
    rw [hc] at hfit
    obtain ⟨g1, g2⟩ := Bool.and_eq_true_iff.mp (show (tIsArr (pa P (ix n)) && pIsLN (pPre P (ix n)) (pb P (ix n))) = true from hfit)
    exact (pList_of hw hn g2).2.2.1
set_option maxRecDepth 100000 in
set_option maxHeartbeats 1000000 in
theorem m_run_end {P : SP} {n0 : Int32} {Q : xQ} {G : Int → UInt64 → Prop} {κ : Int} (X : SO) (hI : Inv G κ X.2) (hT : X.1 = true → rF X.2.2.2 = 0 ∧ vOK X.2.1 (rK X.2.2.2) (rA X.2.2.2)) (hF : X.1 = false → 0 < (rF X.2.2.2).toInt) (h1 : ∀ m', RM (sFin X).2 m' → mCame m' = rA (sFin X).2.2.2 → Q (some (.int (sFin X).1)) (wM P (sFin X).2 m')) (m : MS) : KO P 20 n0 Q 0 m X := by
  intro m' ⟨hr, hdp, hpb⟩ hres
  unfold Lp
  refine Ev.go (Cd.mono 20) [] 100 ?_
  refine And.intro (fun _ => ?_) (fun z => absurd (by show mDeep m' ≤ 0; rw [hdp]; exact Int32.le_refl _) z)
  unfold sFin at h1
  cases hx : X.1
  · have hpos := hF hx
    simp only [hx, cond_false] at h1
    refine And.intro (fun z => absurd (i_le z) (by show ¬ (rF X.2.2.2).toInt ≤ 0; omega)) (fun _ => ?_)
    refine And.intro (Or.inl rfl) ?_
    exact h1 (mSetR m' 0 0) (by exact hr) rfl
  · obtain ⟨hf0, hv⟩ := hT hx
    have hR := hres hx
    simp only [hx, cond_true] at h1
    have h1 := h1 m' hr hR.2
    refine And.intro (fun _ => ?_) (fun z => absurd (show rF X.2.2.2 ≤ 0 by rw [hf0]; exact Int32.le_refl _) z)
    by_cases hz : rK X.2.2.2 = 0
    · rw [hz] at h1
      refine And.intro (fun z => absurd (hR.ref0 hz) z) (fun _ => ?_)
      exact h1
    · refine And.intro (fun _ => ?_) (fun z => absurd ((hR.ref1 hz).symm.trans z) ne10)
      rcases vOK_ref hv hz with x | x
      · have hneg : mCame m' < 0 := by rw [hR.2]; exact x.2.2
        rw [x.1] at h1
        refine And.intro (fun z => absurd hneg (by rw [lc_ge] at z; exact z)) (fun _ => ?_)
        exact h1
      · have hneg : ¬ mCame m' < 0 := by rw [hR.2]; exact x.2.1
        rw [x.1] at h1
        refine And.intro (fun _ => ?_) (fun z => absurd (by rw [lc_ge]; exact hneg) z)
        exact h1
set_option maxRecDepth 100000 in
set_option maxHeartbeats 1000000 in
theorem m_run {D : Nat} (hD : 21 ≤ D) {P : SP} {G : Int → UInt64 → Prop} {κ : Int} {S : SS} {m : MS} {Q : xQ} (hw : pWF P) (f1 : fOK1) (fc : fCut) (go : GO G) (hC : CI G κ S) (hκ : κ ≤ gB) (hr : RM S m) (n : Int32) (h1 : pIsNode P n = true → ∀ m', RM (sRun P n S).2 m' → mCame m' = rA (sRun P n S).2.2.2 → Q (some (.int (sRun P n S).1)) (wM P (sRun P n S).2 m')) (h0 : pIsNode P n = false → Q (some (.int (-2))) (wM P S m)) : Cd D 148 [.ref 0, .int n] (wM P S m) Q := by
  refine Cd.up hD ?_
  refine Cd.mk cdX8_run 2 4 1 [(0, .ref 0), (1, .int n)] rfl rfl rfl rfl 0 ?_
  refine Ev.go (Cd.mono 20) [61] 100 ?_
  refine m_isNode (by decide) hw.1 n ?_
  cases hn : pIsNode P n
  · refine And.intro (fun z => absurd rfl z) (fun _ => ?_)
    exact h0 hn
  · refine And.intro (fun _ => ?_) (fun z => absurd z (by decide))
    refine And.intro (Or.inl rfl) ?_
    have hI := CI_start hC hκ
    have hnr := pIsNode_iff.mp hn
    have h80 := hw.1.2
    have ex := ev_EX hw go 80 80 n hn (by omega) κ (sStart S) hI rfl
    refine m_enter (S := sStart S) (m := mSetDeep (mSetR m 0 0) 0) (by decide) n (pIsNode_in hw.1 hn) (vp_in_nI (n := 0) (by decide) (by decide)) ?_
    have sx := sx_ev (n0 := n) (Q := Q) (d := 20) hw (by decide) f1 fc go 80
    exact sx n hn (by omega) κ (sStart S) 0 (mSetDeep (mSetR m 0 0) 0) hI rfl (by omega) (by show (0 : Int32).toInt ≤ _; exact Int.natCast_nonneg _) hr rfl (m_run_end (ev P 80 n (sStart S)) ex.1 ex.2.1 ex.2.2.1 (h1 hn) _)
