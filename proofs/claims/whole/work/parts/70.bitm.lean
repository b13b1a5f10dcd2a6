/-! BITS, the reference's -/
def bT (six : Bool) : Int32 := bif six then 6 else 7
section BM
variable {w : xW} {Q : xQ} {six : Bool} {r : UInt64} {c : Nat} {q i : Int} {s : Bool}
set_option maxRecDepth 100000 in
set_option maxHeartbeats 1000000 in
theorem m_bits_113 {d : Nat} (hc : cOK c) (hq : -52 ≤ q ∧ q ≤ 32) (hv : FP.Core.val64 r = .fin s c q) (hd : FP.Core.DInt i r) (hi : i ≠ 0) (hs : s = decide (i < 0)) (h : Q (some (.long (bAns six r))) w) : Ev (Cd d) cdX8_bitsOf Q 113 [(0, .int (bT six)), (1, .double r), (3, .int (nI (bF six))), (4, .double (nd (2 ^ 52) ((bF six : Int) - 52))), (6, .double (nd c ((bF six : Int) - 52))), (8, .int (nI (q + 52).toNat))] [] w := by
  have hb := bB_ge six
  have hf := bF_le six
  have e4 := nd_d2l hc hf
  have e4' : FP.d2l (nd (2 ^ 52) ((bF six : Int) - 52)) = lN (2 ^ bF six) := by
    rw [nd_d2l c52 hf]
    congr 1
    rw [Nat.pow_div (by omega) (by decide)]
    congr 1
    omega
  obtain ⟨w1, w2⟩ := bW (six := six) hc
  have e6 : lN (c / 2 ^ (52 - bF six)) - lN (2 ^ bF six) = lN (c / 2 ^ (52 - bF six) - 2 ^ bF six) := lN_sub w1
  have e5 : (nI (q + 52).toNat).toInt64 + lN (bB six) = lN ((q + 52).toNat + bB six) := by rw [nI_l (by omega), lN_add]
  have e7 : lN ((q + 52).toNat + bB six) <<< ((nI (bF six)).toInt64 &&& 63) = lN (2 ^ bF six * ((q + 52).toNat + bB six)) := by rw [bl_shl _ (by omega), Nat.mul_comm]
  have e8 : lN (2 ^ bF six * ((q + 52).toNat + bB six)) ||| lN (c / 2 ^ (52 - bF six) - 2 ^ bF six) = lN (bP six c q) := by
    rw [bl_sum _ w2]
    unfold bP
    rw [Nat.mul_comm]
  have key : (((nI (q + 52).toNat).toInt64 + lN (bB six)) <<< ((nI (bF six)).toInt64 &&& 63)) ||| (FP.d2l (nd c ((bF six : Int) - 52)) - FP.d2l (nd (2 ^ 52) ((bF six : Int) - 52))) = lN (bP six c q) := by
    rw [e4, e4', e5, e6, e7, e8]
  rw [bAns_of hc hv] at h
  have hcm := nd_sgn hd
  have h152 : Ev (Cd d) cdX8_bitsOf Q 152 [(0, .int (bT six)), (1, .double r), (3, .int (nI (bF six))), (4, .double (nd (2 ^ 52) ((bF six : Int) - 52))), (6, .double (nd c ((bF six : Int) - 52))), (8, .int (nI (q + 52).toNat)), (9, .long (FP.d2l (nd c ((bF six : Int) - 52)) - FP.d2l (nd (2 ^ 52) ((bF six : Int) - 52)))), (11, .long ((nI (q + 52).toNat).toInt64 + lN (bB six))), (13, .long (lN (bP six c q)))] [] w := by
    refine Ev.go (Cd.mono d) [] 100 ?_
    by_cases hneg : i < 0
    · rw [decide_eq_true hneg] at hs
      rw [hs, cond_true] at h
      have hlt : FP.dcmp r FP.dconst0 = some .lt := by rw [hcm, Option.some.injEq, FP.Core.compare_lt_iff]; exact hneg
      refine And.intro (fun _ => ?_) (fun z => absurd (cv_le hlt) z)
      cases six
      · refine And.intro (fun _ => ?_) (fun z => absurd (show (7 : Int32) = 6 from z) (by decide))
        exact h
      · refine And.intro (fun z => absurd rfl z) (fun _ => ?_)
        exact h
    · rw [decide_eq_false hneg] at hs
      rw [hs, cond_false] at h
      have hgt : FP.dcmp r FP.dconst0 = some .gt := by rw [hcm, Option.some.injEq, FP.Core.compare_gt_iff]; omega
      refine And.intro (fun z => absurd z (cv_gt hgt)) (fun _ => ?_)
      exact h
  rw [← key] at h152
  refine Ev.go (Cd.mono d) [152] 100 ?_
  cases six
  · refine And.intro (fun _ => ?_) (fun z => absurd (show (7 : Int32) = 6 from z) (by decide))
    exact h152
  · refine And.intro (fun z => absurd rfl z) (fun _ => ?_)
    exact h152
set_option maxRecDepth 100000 in
set_option maxHeartbeats 1000000 in
theorem m_bits_down {d : Nat} (hc : cOK c) (hq : -52 ≤ q ∧ q ≤ 32) (h : Ev (Cd d) cdX8_bitsOf Q 113 [(0, .int (bT six)), (1, .double r), (3, .int (nI (bF six))), (4, .double (nd (2 ^ 52) ((bF six : Int) - 52))), (6, .double (nd c ((bF six : Int) - 52))), (8, .int (nI (q + 52).toNat))] [] w) : ∀ (j : Nat) (x : Int), x = (bF six : Int) - 52 + j → x ≤ 32 → (q - x + bF six).toNat + j = (q + 52).toNat → 0 ≤ q - x + bF six → Ev (Cd d) cdX8_bitsOf Q 87 [(0, .int (bT six)), (1, .double r), (3, .int (nI (bF six))), (4, .double (nd (2 ^ 52) ((bF six : Int) - 52))), (6, .double (nd c x)), (8, .int (nI (q - x + bF six).toNat))] [] w
  | 0, x, hx, h32, hb, h0 => by
    have hf := bF_le six
    have hm2 : FP.dmul (nd (2 ^ 52) ((bF six : Int) - 52)) 4611686018427387904 = nd (2 ^ 52) (((bF six : Int) + 1) - 52) := by
      rw [← nd_two, nd_mul c52 ⟨by omega, by omega⟩ ⟨by omega, by omega⟩ ⟨by omega, by omega⟩]
      exact congrArg (nd (2 ^ 52)) (by omega)
    have hlt : FP.dcmp (nd c x) (FP.dmul (nd (2 ^ 52) ((bF six : Int) - 52)) 4611686018427387904) = some .lt := by
      rw [hm2]
      exact (nd_cmp hc ⟨by omega, by omega⟩ ⟨by omega, by omega⟩).1 (by omega)
    have e1 : x = (bF six : Int) - 52 := by omega
    have e2 : (q - x + bF six).toNat = (q + 52).toNat := by omega
    refine Ev.go (Cd.mono d) [113] 100 ?_
    refine And.intro (by rw [hm2]; exact nd_vf c52 ⟨by omega, by omega⟩) ?_
    refine And.intro (fun _ => ?_) (fun z => absurd (cv_lt hlt) z)
    rw [e2, e1]
    exact h
  | j + 1, x, hx, h32, hb, h0 => by
    have hf := bF_le six
    have hm2 : FP.dmul (nd (2 ^ 52) ((bF six : Int) - 52)) 4611686018427387904 = nd (2 ^ 52) (((bF six : Int) + 1) - 52) := by
      rw [← nd_two, nd_mul c52 ⟨by omega, by omega⟩ ⟨by omega, by omega⟩ ⟨by omega, by omega⟩]
      exact congrArg (nd (2 ^ 52)) (by omega)
    have hge : FP.dcmp (nd c x) (FP.dmul (nd (2 ^ 52) ((bF six : Int) - 52)) 4611686018427387904) = some .gt ∨ FP.dcmp (nd c x) (FP.dmul (nd (2 ^ 52) ((bF six : Int) - 52)) 4611686018427387904) = some .eq := by
      rw [hm2]
      exact (nd_cmp hc ⟨by omega, by omega⟩ ⟨by omega, by omega⟩).2 (by omega)
    have hdiv : FP.ddiv (nd c x) 4611686018427387904 = nd c (x - 1) := by
      rw [← nd_two, nd_div hc ⟨by omega, by omega⟩ ⟨by omega, by omega⟩ ⟨by omega, by omega⟩]
    have ih := m_bits_down (d := d) hc hq h j (x - 1) (by omega) (by omega) (by omega) (by omega)
    have e2 : (q - (x - 1) + bF six).toNat = (q - x + bF six).toNat + 1 := by omega
    rw [← hdiv, e2, ← nI_1] at ih
    refine Ev.go (Cd.mono d) [87] 100 ?_
    refine And.intro (by rw [hm2]; exact nd_vf c52 ⟨by omega, by omega⟩) ?_
    refine And.intro (fun z => absurd z (cv_ge hge)) (fun _ => ?_)
    refine And.intro (by rw [hdiv]; exact nd_vf hc ⟨by omega, by omega⟩) ?_
    exact ih
set_option maxRecDepth 100000 in
set_option maxHeartbeats 1000000 in
theorem m_bits_up {d : Nat} (hc : cOK c) (hq : -52 ≤ q ∧ q ≤ 32) (h : ∀ x : Int, (bF six : Int) - 52 ≤ x → q ≤ x → (x = q ∨ x = (bF six : Int) - 52) → Ev (Cd d) cdX8_bitsOf Q 87 [(0, .int (bT six)), (1, .double r), (3, .int (nI (bF six))), (4, .double (nd (2 ^ 52) ((bF six : Int) - 52))), (6, .double (nd c x)), (8, .int (nI (q - x + bF six).toNat))] [] w) : ∀ (j : Nat) (x : Int), (x = q ∨ x ≤ (bF six : Int) - 52) → q ≤ x → j = ((bF six : Int) - 52 - x).toNat → Ev (Cd d) cdX8_bitsOf Q 65 [(0, .int (bT six)), (1, .double r), (3, .int (nI (bF six))), (4, .double (nd (2 ^ 52) ((bF six : Int) - 52))), (6, .double (nd c x)), (8, .int (nI (q - x + bF six).toNat))] [] w
  | 0, x, hx, hqx, hj => by
    have hf := bF_le six
    have hge : FP.dcmp (nd c x) (nd (2 ^ 52) ((bF six : Int) - 52)) = some .gt ∨ FP.dcmp (nd c x) (nd (2 ^ 52) ((bF six : Int) - 52)) = some .eq := (nd_cmp hc ⟨by omega, by omega⟩ ⟨by omega, by omega⟩).2 (by omega)
    refine Ev.go (Cd.mono d) [87] 100 ?_
    refine And.intro (fun _ => ?_) (fun z => absurd (cv_ge0 (cv_ge hge)) z)
    exact h x (by omega) hqx (by omega)
  | j + 1, x, hx, hqx, hj => by
    have hf := bF_le six
    have hlt : FP.dcmp (nd c x) (nd (2 ^ 52) ((bF six : Int) - 52)) = some .lt := (nd_cmp hc ⟨by omega, by omega⟩ ⟨by omega, by omega⟩).1 (by omega)
    have hmul : FP.dmul (nd c x) 4611686018427387904 = nd c (x + 1) := by
      rw [← nd_two, nd_mul hc ⟨by omega, by omega⟩ ⟨by omega, by omega⟩ ⟨by omega, by omega⟩]
    have ih := m_bits_up (d := d) hc hq h j (x + 1) (by omega) (by omega) (by omega)
    have e2 : (q - x + bF six).toNat = (q - (x + 1) + bF six).toNat + 1 := by omega
    have e3 : nI (q - (x + 1) + bF six).toNat = nI (q - x + bF six).toNat + (-1) := by rw [e2, pk_m1]
    rw [← hmul, e3] at ih
    refine Ev.go (Cd.mono d) [65] 100 ?_
    refine And.intro (fun z => absurd z (cv_nge (cv_lt hlt))) (fun _ => ?_)
    refine And.intro (by rw [hmul]; exact nd_vf hc ⟨by omega, by omega⟩) ?_
    exact ih
set_option maxRecDepth 100000 in
set_option maxHeartbeats 1000000 in
theorem m_bits_most {d : Nat} (h : Ev (Cd d) cdX8_bitsOf Q 48 [(0, .int (bT six)), (1, .double r), (3, .int (nI (bF six))), (4, .double (nd (2 ^ 52) ((bF six : Int) - 52))), (6, .int (nI (bF six)))] [] w) : ∀ (j k : Nat), k + j = bF six → Ev (Cd d) cdX8_bitsOf Q 28 [(0, .int (bT six)), (1, .double r), (3, .int (nI (bF six))), (4, .double (nd (2 ^ 52) ((k : Int) - 52))), (6, .int (nI k))] [] w
  | 0, k, hk => by
    have hk : k = bF six := by omega
    subst hk
    refine Ev.go (Cd.mono d) [48] 100 ?_
    refine And.intro (fun _ => ?_) (fun z => absurd (Int32.le_refl _) z)
    exact h
  | j + 1, k, hk => by
    have hf := bF_le six
    have hmul : FP.dmul (nd (2 ^ 52) ((k : Int) - 52)) 4611686018427387904 = nd (2 ^ 52) (((k + 1 : Nat) : Int) - 52) := by
      rw [← nd_two, nd_mul c52 ⟨by omega, by omega⟩ ⟨by omega, by omega⟩ ⟨by omega, by omega⟩]
      exact congrArg (nd (2 ^ 52)) (by omega)
    have ih := m_bits_most (d := d) h j (k + 1) (by omega)
    rw [← hmul, ← nI_1] at ih
    refine Ev.go (Cd.mono d) [28] 100 ?_
    refine And.intro (fun z => absurd z (nI_ge (by omega) (by omega))) (fun _ => ?_)
    refine And.intro (by rw [hmul]; exact nd_vf c52 ⟨by omega, by omega⟩) ?_
    exact ih
set_option maxRecDepth 100000 in
set_option maxHeartbeats 1000000 in
theorem m_bitsOf {D : Nat} (hD : 1 ≤ D) (hd : FP.Core.DInt i r) (hb : i.natAbs < 2 ^ 85) (h : Q (some (.long (bAns six r))) w) : Cd D 103 [.int (bT six), .double r] w Q := by
  refine Cd.up hD ?_
  refine Cd.mk cdX8_bitsOf 15 99 2 [(0, .int (bT six)), (1, .double r)] rfl rfl rfl rfl 0 ?_
  have hcm := nd_sgn hd
  have hf := bF_le six
  by_cases hi : i = 0
  · subst hi
    rw [bAns_0 hd] at h
    have he : FP.dcmp r FP.dconst0 = some .eq := by rw [hcm, Option.some.injEq, FP.Core.compare_eq_iff]
    refine Ev.go (Cd.mono 0) [] 100 ?_
    refine And.intro (fun z => absurd (cv_eq.mpr he) z) (fun _ => ?_)
    exact h
  · obtain ⟨s, c, q, hc, hq, hv, hs, hp, hn⟩ := nd_of hd hi hb
    have hne : ¬ FP.dcmp r FP.dconst0 = some .eq := by rw [hcm, Option.some.injEq, FP.Core.compare_eq_iff]; exact hi
    have h113 := m_bits_113 (d := 0) (six := six) (w := w) (Q := Q) hc hq hv hd hi hs h
    have h87 := m_bits_down (d := 0) hc hq h113
    have h65 := m_bits_up (d := 0) (r := r) (six := six) (Q := Q) (w := w) hc hq (fun x h1 h2 h3 => h87 (x - ((bF six : Int) - 52)).toNat x (by omega) (by omega) (by omega) (by omega)) ((bF six : Int) - 52 - q).toNat q (Or.inl rfl) (Int.le_refl _) rfl
    rw [show (q - q + (bF six : Int)).toNat = bF six by omega] at h65
    have h48 : Ev (Cd 0) cdX8_bitsOf Q 48 [(0, .int (bT six)), (1, .double r), (3, .int (nI (bF six))), (4, .double (nd (2 ^ 52) ((bF six : Int) - 52))), (6, .int (nI (bF six)))] [] w := by
      refine Ev.go (Cd.mono 0) [65] 100 ?_
      by_cases hneg : i < 0
      · rw [decide_eq_true hneg] at hs
        have hlt : FP.dcmp r FP.dconst0 = some .lt := by rw [hcm, Option.some.injEq, FP.Core.compare_lt_iff]; exact hneg
        rw [← hn hs] at h65
        refine And.intro (fun z => absurd z (cv_nge (cv_lt hlt))) (fun _ => ?_)
        exact h65
      · rw [decide_eq_false hneg] at hs
        have hgt : FP.dcmp r FP.dconst0 = some .gt := by rw [hcm, Option.some.injEq, FP.Core.compare_gt_iff]; omega
        rw [← hp hs] at h65
        refine And.intro (fun _ => ?_) (fun z => absurd (cv_ge0 (cv_ge (Or.inl hgt))) z)
        exact h65
    have h28 := m_bits_most (d := 0) h48 (bF six) 0 (Nat.zero_add _)
    rw [show nd (2 ^ 52) (((0 : Nat) : Int) - 52) = FP.dconst1 from nd_one] at h28
    refine Ev.go (Cd.mono 0) [28] 100 ?_
    refine And.intro (fun _ => ?_) (fun z => absurd (cv_eq.mp z) hne)
    cases six
    · refine And.intro (fun _ => ?_) (fun z => absurd (show (7 : Int32) = 6 from z) (by decide))
      exact h28
    · refine And.intro (fun z => absurd rfl z) (fun _ => ?_)
      exact h28
end BM
