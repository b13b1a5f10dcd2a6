/-! BITS, walked -/
theorem bF_le (six : Bool) : bF six ≤ 52 := by cases six <;> decide
theorem bF_pos (six : Bool) : 1 ≤ bF six := by cases six <;> decide
theorem bB_ge (six : Bool) : 127 ≤ bB six ∧ bB six ≤ 1023 := by cases six <;> decide
theorem b_one (six : Bool) : (1 : Int64) <<< ((nI (bF six)).toInt64 &&& 63) = lN (2 ^ bF six) := by
  have := bl_shl 1 (k := bF six) (by have := bF_le six; omega)
  rw [Nat.one_mul] at this
  exact this
theorem b_l2d (six : Bool) : FP.l2d (lN (2 ^ bF six)) = nd (2 ^ 52) ((bF six : Int) - 52) := by cases six <;> decide +kernel
def bS (six : Bool) : Int32 := bif six then 31 else 63
theorem b_sg (six : Bool) : (-1 : Int64) <<< ((bS six).toInt64 &&& 63) = (bif six then -2147483648 else -9223372036854775808) := by cases six <;> decide +kernel
theorem bP_lt {six : Bool} {c : Nat} {q : Int} (hc : cOK c) (hq : -52 ≤ q ∧ q ≤ 32) : bP six c q < 2 ^ 63 ∧ (six = true → bP six c q < 2 ^ 31) := by
  obtain ⟨w1, w2⟩ := bW (six := six) hc
  unfold bP
  have hE : (q + 52).toNat ≤ 84 := by omega
  cases six
  · have w2 : c / 2 ^ (52 - bF false) - 2 ^ bF false < 2 ^ 52 := w2
    show ((q + 52).toNat + 1023) * 2 ^ 52 + _ < 2 ^ 63 ∧ _
    refine ⟨?_, fun z => by cases z⟩
    omega
  · have w2 : c / 2 ^ (52 - bF true) - 2 ^ bF true < 2 ^ 23 := w2
    show ((q + 52).toNat + 127) * 2 ^ 23 + _ < 2 ^ 63 ∧ (_ → ((q + 52).toNat + 127) * 2 ^ 23 + _ < 2 ^ 31)
    refine ⟨?_, fun _ => ?_⟩ <;> omega
theorem bAns_of {six s : Bool} {c : Nat} {q : Int} {r : UInt64} (hc : cOK c) (hv : FP.Core.val64 r = .fin s c q) : bAns six r = (bif s then (bif six then lN (bP six c q) - 2147483648 else lN (bP six c q) ||| (-9223372036854775808)) else lN (bP six c q)) := by
  unfold bAns
  rw [hv]
  have : Nat.beq c 0 = false := by
    cases hb : Nat.beq c 0
    · rfl
    · have := Nat.eq_of_beq_eq_true hb
      have := hc.1
      omega
  simp only [this, cond_false]
theorem bAns_0 {six : Bool} {r : UInt64} (h : FP.Core.DInt 0 r) : bAns six r = 0 := by
  unfold bAns
  unfold FP.Core.DInt at h
  generalize FP.Core.val64 r = d at h
  cases d with
  | nan => rfl
  | inf => rfl
  | fin s c q =>
    have : c = 0 := (FP.Core.whole_zero h).mpr rfl
    subst this
    rfl
theorem cv_eq {o : Option Ordering} {op : Jvm.ClassFile.CmpOp} : (Op.cmpValue o op = 0) ↔ o = some .eq := by
  rcases o with _ | (_ | _ | _)
  · cases op <;> decide
  · exact ⟨fun h => absurd (show (-1 : Int32) = 0 from h) (by decide), fun h => by cases h⟩
  · exact ⟨fun _ => rfl, fun _ => rfl⟩
  · exact ⟨fun h => absurd (show (1 : Int32) = 0 from h) (by decide), fun h => by cases h⟩
theorem cv_gt {o : Option Ordering} {op : Jvm.ClassFile.CmpOp} (h : o = some .gt) : ¬ Op.cmpValue o op ≤ 0 := by subst h; exact (show ¬ (1 : Int32) ≤ 0 by decide)
theorem cv_le {o : Option Ordering} {op : Jvm.ClassFile.CmpOp} (h : o = some .lt) : Op.cmpValue o op ≤ 0 := by subst h; exact (show (-1 : Int32) ≤ 0 by decide)
theorem cv_ge0 {x : Int32} (h : ¬ x < 0) : 0 ≤ x := Int32.not_lt.mp h
theorem cv_nge {x : Int32} (h : x < 0) : ¬ 0 ≤ x := fun z => absurd h (Int32.not_lt.mpr z)
section BW
variable {w : xW} {Q : xQ} {six : Bool} {r : UInt64} {c : Nat} {q i : Int} {s : Bool}
set_option maxRecDepth 100000 in
set_option maxHeartbeats 1000000 in
theorem s_bits_54 {d : Nat} (hc : cOK c) (hq : -52 ≤ q ∧ q ≤ 32) (hv : FP.Core.val64 r = .fin s c q) (hd : FP.Core.DInt i r) (hi : i ≠ 0) (hs : s = decide (i < 0)) (h : Q (some (.long (bAns six r))) w) : Ev (Cd d) cdX3_bitsOf Q 54 [(0, .double r), (2, .int (nI (bF six))), (3, .int (nI (bB six))), (4, .int (bS six)), (5, .double (nd c (-52))), (7, .int (nI (q + 52).toNat))] [] w := by
  have hb := bB_ge six
  have hf := bF_le six
  have e1 := b_one six
  have e2 := b_l2d six
  have e3 : FP.dmul (nd c (-52)) (nd (2 ^ 52) ((bF six : Int) - 52)) = nd c ((bF six : Int) - 52) := by
    rw [nd_mul hc ⟨by omega, by omega⟩ ⟨by omega, by omega⟩ ⟨by omega, by omega⟩]
    exact congrArg (nd c) (by omega)
  have e4 := nd_d2l hc hf
  have e5 : (nI (q + 52).toNat + nI (bB six)).toInt64 = lN ((q + 52).toNat + bB six) := by rw [nI_add, nI_l (by omega)]
  obtain ⟨w1, w2⟩ := bW (six := six) hc
  have e6 : lN (c / 2 ^ (52 - bF six)) - lN (2 ^ bF six) = lN (c / 2 ^ (52 - bF six) - 2 ^ bF six) := lN_sub w1
  have e7 : lN ((q + 52).toNat + bB six) <<< ((nI (bF six)).toInt64 &&& 63) = lN (((q + 52).toNat + bB six) * 2 ^ bF six) := bl_shl _ (by omega)
  have e8 : lN (((q + 52).toNat + bB six) * 2 ^ bF six) + lN (c / 2 ^ (52 - bF six) - 2 ^ bF six) = lN (bP six c q) := lN_add _ _
  have key : ((nI (q + 52).toNat + nI (bB six)).toInt64 <<< ((nI (bF six)).toInt64 &&& 63)) + (FP.d2l (FP.dmul (nd c (-52)) (FP.l2d ((1 : Int64) <<< ((nI (bF six)).toInt64 &&& 63)))) - ((1 : Int64) <<< ((nI (bF six)).toInt64 &&& 63))) = lN (bP six c q) := by
    rw [e1, e2, e3, e4, e5, e6, e7, e8]
  have kv : vf_n64 (FP.dmul (nd c (-52)) (FP.l2d ((1 : Int64) <<< ((nI (bF six)).toInt64 &&& 63)))) := by
    rw [e1, e2, e3]
    exact nd_vf hc ⟨by omega, by omega⟩
  rw [bAns_of hc hv] at h
  have hcm := nd_sgn hd
  refine Ev.go (Cd.mono d) [79] 100 ?_
  refine And.intro kv ?_
  have h79 : Ev (Cd d) cdX3_bitsOf Q 79 [(0, .double r), (2, .int (nI (bF six))), (3, .int (nI (bB six))), (4, .int (bS six)), (5, .double (nd c (-52))), (7, .int (nI (q + 52).toNat)), (8, .long ((1 : Int64) <<< ((nI (bF six)).toInt64 &&& 63))), (10, .long (lN (bP six c q)))] [] w := by
    refine Ev.go (Cd.mono d) [] 100 ?_
    by_cases hneg : i < 0
    · rw [decide_eq_true hneg] at hs
      rw [hs, cond_true] at h
      have hlt : FP.dcmp r FP.dconst0 = some .lt := by rw [hcm, Option.some.injEq, FP.Core.compare_lt_iff]; exact hneg
      refine And.intro (fun z => absurd z (cv_nge (cv_lt hlt))) (fun _ => ?_)
      have hsg := b_sg six
      have hfin : lN (bP six c q) ||| ((-1 : Int64) <<< ((bS six).toInt64 &&& 63)) = (bif six then lN (bP six c q) - 2147483648 else lN (bP six c q) ||| (-9223372036854775808)) := by
        rw [hsg]
        have hpl := (bP_lt (six := six) hc hq).2
        cases six
        · rfl
        · exact bl_neg (hpl rfl)
      rw [← hfin] at h
      exact h
    · rw [decide_eq_false hneg] at hs
      rw [hs, cond_false] at h
      have hgt : FP.dcmp r FP.dconst0 = some .gt := by rw [hcm, Option.some.injEq, FP.Core.compare_gt_iff]; omega
      refine And.intro (fun _ => ?_) (fun z => absurd (cv_ge0 (cv_ge (Or.inl hgt))) z)
      exact h
  rw [← key] at h79
  exact h79
set_option maxRecDepth 100000 in
set_option maxHeartbeats 1000000 in
theorem s_bits_loop {d : Nat} (hc : cOK c) (hq : -52 ≤ q ∧ q ≤ 32) (h : Ev (Cd d) cdX3_bitsOf Q 54 [(0, .double r), (2, .int (nI (bF six))), (3, .int (nI (bB six))), (4, .int (bS six)), (5, .double (nd c (-52))), (7, .int (nI (q + 52).toNat))] [] w) : ∀ (j k : Nat), k + j = (q + 52).toNat → Ev (Cd d) cdX3_bitsOf Q 25 [(0, .double r), (2, .int (nI (bF six))), (3, .int (nI (bB six))), (4, .int (bS six)), (5, .double (nd c (q - k))), (7, .int (nI k))] [] w
  | 0, k, hk => by
    have e : q - (k : Int) = -52 := by omega
    have ek : k = (q + 52).toNat := by omega
    have hlt : FP.dcmp (nd c (q - k)) 4611686018427387904 = some .lt := by
      rw [← nd_two]
      exact (nd_cmp hc ⟨by omega, by omega⟩ ⟨by omega, by omega⟩).1 (by omega)
    rw [← e, ← ek] at h
    refine Ev.go (Cd.mono d) [54] 100 ?_
    refine And.intro (fun _ => ?_) (fun z => absurd (cv_lt hlt) z)
    exact h
  | j + 1, k, hk => by
    have hb := bB_ge six
    have hge : FP.dcmp (nd c (q - k)) 4611686018427387904 = some .gt ∨ FP.dcmp (nd c (q - k)) 4611686018427387904 = some .eq := by
      rw [← nd_two]
      exact (nd_cmp hc ⟨by omega, by omega⟩ ⟨by omega, by omega⟩).2 (by omega)
    have hdiv : FP.ddiv (nd c (q - k)) 4611686018427387904 = nd c (q - (k + 1 : Nat)) := by
      rw [← nd_two, nd_div hc ⟨by omega, by omega⟩ ⟨by omega, by omega⟩ ⟨by omega, by omega⟩]
      congr 1
      omega
    have ih := s_bits_loop (d := d) hc hq h j (k + 1) (by omega)
    rw [← hdiv, ← nI_1] at ih
    refine Ev.go (Cd.mono d) [25] 100 ?_
    refine And.intro (fun z => absurd z (cv_ge hge)) (fun _ => ?_)
    refine And.intro (fun z => absurd z (nI_ge (by omega) (by omega))) (fun _ => ?_)
    refine And.intro (by rw [hdiv]; exact nd_vf hc ⟨by omega, by omega⟩) ?_
    exact ih
set_option maxRecDepth 100000 in
set_option maxHeartbeats 1000000 in
theorem s_bitsOf {D : Nat} (hD : 1 ≤ D) (hd : FP.Core.DInt i r) (hb : i.natAbs < 2 ^ 85) (h : Q (some (.long (bAns six r))) w) : Cd D 29 [.double r, .int (nI (bF six)), .int (nI (bB six)), .int (bS six)] w Q := by
  refine Cd.up hD ?_
  refine Cd.mk cdX3_bitsOf 12 99 4 [(0, .double r), (2, .int (nI (bF six))), (3, .int (nI (bB six))), (4, .int (bS six))] rfl rfl rfl rfl 0 ?_
  have hcm := nd_sgn hd
  by_cases hi : i = 0
  · subst hi
    rw [bAns_0 hd] at h
    have he : FP.dcmp r FP.dconst0 = some .eq := by rw [hcm, Option.some.injEq, FP.Core.compare_eq_iff]
    refine Ev.go (Cd.mono 0) [] 100 ?_
    refine And.intro (fun z => absurd (cv_eq.mpr he) z) (fun _ => ?_)
    exact h
  · obtain ⟨s, c, q, hc, hq, hv, hs, hp, hn⟩ := nd_of hd hi hb
    have hne : ¬ FP.dcmp r FP.dconst0 = some .eq := by rw [hcm, Option.some.injEq, FP.Core.compare_eq_iff]; exact hi
    have h54 := s_bits_54 (d := 0) (six := six) (w := w) (Q := Q) hc hq hv hd hi hs h
    have hl := s_bits_loop (d := 0) hc hq h54 (q + 52).toNat 0 (Nat.zero_add _)
    rw [show q - ((0 : Nat) : Int) = q by omega] at hl
    refine Ev.go (Cd.mono 0) [25] 100 ?_
    refine And.intro (fun _ => ?_) (fun z => absurd (cv_eq.mp z) hne)
    by_cases hneg : i < 0
    · rw [decide_eq_true hneg] at hs
      have hlt : FP.dcmp r FP.dconst0 = some .lt := by rw [hcm, Option.some.injEq, FP.Core.compare_lt_iff]; exact hneg
      rw [← hn hs] at hl
      refine And.intro (fun z => absurd z (cv_nge (cv_lt hlt))) (fun _ => ?_)
      exact hl
    · rw [decide_eq_false hneg] at hs
      have hgt : FP.dcmp r FP.dconst0 = some .gt := by rw [hcm, Option.some.injEq, FP.Core.compare_gt_iff]; omega
      rw [← hp hs] at hl
      refine And.intro (fun _ => ?_) (fun z => absurd (cv_ge0 (cv_ge (Or.inl hgt))) z)
      exact hl
end BW
