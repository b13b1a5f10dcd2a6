/-! BITS: doubles with their leading digit -/
def nd (c : Nat) (q : Int) : UInt64 := FP.Core.of64 (.fin false c q)
def cOK (c : Nat) : Prop := 2 ^ 52 ≤ c ∧ c < 2 ^ 53
def qOK (q : Int) : Prop := -1000 ≤ q ∧ q ≤ 900
theorem b64_p : FP.Core.b64.p = 53 := rfl
theorem b64_qmax : FP.Core.b64.qmax = 971 := by decide
theorem nd_fits {s : Bool} {c : Nat} {q : Int} (hc : cOK c) (hq : qOK q) : FP.Core.fits FP.Core.b64 (.fin s c q) := by
  refine ⟨by rw [b64_p]; exact hc.2, by rw [FP.Core.qmin_b64]; have := hq.1; omega, by rw [b64_qmax]; have := hq.2; omega, Or.inr (by rw [FP.Core.tails_b64]; exact hc.1)⟩
theorem nd_val {c : Nat} {q : Int} (hc : cOK c) (hq : qOK q) : FP.Core.val64 (nd c q) = .fin false c q := FP.Core.val64_of64 (nd_fits hc hq)
theorem nd_nn {c : Nat} {q : Int} (hc : cOK c) (hq : qOK q) : FP.Core.val64 (nd c q) ≠ .nan := by rw [nd_val hc hq]; intro h; cases h
theorem nd_vf {c : Nat} {q : Int} (hc : cOK c) (hq : qOK q) : vf_n64 (nd c q) := by
  have := (FP.Core.ne_nan _).mp (nd_nn hc hq)
  unfold vf_n64
  rw [UInt64.le_iff_toNat_le, FP.Core.mask_toNat]
  exact this
theorem c52 : cOK (2 ^ 52) := ⟨Nat.le_refl _, by decide⟩
theorem nd_mul {c : Nat} {q : Int} {k : Int} (hc : cOK c) (hq : qOK q) (hk : qOK (k - 52)) (hqk : qOK (q + k)) : FP.dmul (nd c q) (nd (2 ^ 52) (k - 52)) = nd c (q + k) := by
  refine (FP.Core.val64_inj (nd_nn hc hqk) ?_).symm
  rw [nd_val hc hqk, FP.dmul_core, FP.Core.val64_dmul, nd_val hc hq, nd_val c52 hk]
  show _ = FP.Core.roundRatio FP.Core.b64 (false != false) (c * 2 ^ 52) 1 (q + (k - 52))
  refine (FP.Core.roundRatio_exact FP.Core.good_b64 (by decide) (nd_fits hc hqk) ?_).symm
  have e1 : (q + (k - 52) - (q + k)).toNat = 0 := by omega
  have e2 : (q + k - (q + (k - 52))).toNat = 52 := by omega
  rw [e1, e2]
  simp
theorem nd_div {c : Nat} {q : Int} {k : Int} (hc : cOK c) (hq : qOK q) (hk : qOK (k - 52)) (hqk : qOK (q - k)) : FP.ddiv (nd c q) (nd (2 ^ 52) (k - 52)) = nd c (q - k) := by
  refine (FP.Core.val64_inj (nd_nn hc hqk) ?_).symm
  rw [nd_val hc hqk, FP.ddiv_core, FP.Core.val64_ddiv, nd_val hc hq, nd_val c52 hk]
  show _ = if 2 ^ 52 = 0 then (if c = 0 then FP.Core.Datum.nan else .inf (false != false)) else FP.Core.roundRatio FP.Core.b64 (false != false) c (2 ^ 52) (q - (k - 52))
  rw [if_neg (by decide)]
  refine (FP.Core.roundRatio_exact FP.Core.good_b64 (by decide) (nd_fits hc hqk) ?_).symm
  have e1 : (q - (k - 52) - (q - k)).toNat = 52 := by omega
  have e2 : (q - k - (q - (k - 52))).toNat = 0 := by omega
  rw [e1, e2]
  simp
theorem nd_cmp {c : Nat} {q j : Int} (hc : cOK c) (hq : qOK q) (hj : qOK (j - 52)) : (q + 52 < j → FP.dcmp (nd c q) (nd (2 ^ 52) (j - 52)) = some .lt) ∧ (j ≤ q + 52 → FP.dcmp (nd c q) (nd (2 ^ 52) (j - 52)) = some .gt ∨ FP.dcmp (nd c q) (nd (2 ^ 52) (j - 52)) = some .eq) := by
  have e : FP.dcmp (nd c q) (nd (2 ^ 52) (j - 52)) = FP.Core.order (FP.Core.val64 (nd c q)) (FP.Core.val64 (nd (2 ^ 52) (j - 52))) := rfl
  rw [e, nd_val hc hq, nd_val c52 hj]
  have e2 : FP.Core.order (.fin false c q) (.fin false (2 ^ 52) (j - 52)) = some (compare ((c * 2 ^ (q - min q (j - 52)).toNat : Nat) : Int) ((2 ^ 52 * 2 ^ (j - 52 - min q (j - 52)).toNat : Nat) : Int)) := rfl
  rw [e2]
  obtain ⟨c1, c2⟩ := hc
  constructor
  · intro h
    have m : min q (j - 52) = q := by omega
    rw [m]
    have z1 : (q - q).toNat = 0 := by omega
    have z2 : 1 ≤ (j - 52 - q).toNat := by omega
    rw [z1]
    have z3 : 2 ^ 1 ≤ 2 ^ (j - 52 - q).toNat := Nat.pow_le_pow_right (by decide) z2
    rw [Option.some.injEq, FP.Core.compare_lt_iff]
    generalize 2 ^ (j - 52 - q).toNat = W at *
    omega
  · intro h
    have m : min q (j - 52) = j - 52 := by omega
    rw [m]
    have z1 : (j - 52 - (j - 52)).toNat = 0 := by omega
    rw [z1]
    have z3 : 1 ≤ 2 ^ (q - (j - 52)).toNat := Nat.one_le_two_pow
    have z4 : c * 1 ≤ c * 2 ^ (q - (j - 52)).toNat := Nat.mul_le_mul_left _ z3
    rw [Option.some.injEq, Option.some.injEq, FP.Core.compare_gt_iff, FP.Core.compare_eq_iff]
    generalize c * 2 ^ (q - (j - 52)).toNat = W at *
    omega
theorem cv_lt {o : Option Ordering} {op : Jvm.ClassFile.CmpOp} (h : o = some .lt) : Op.cmpValue o op < 0 := by subst h; exact (show (-1 : Int32) < 0 by decide)
theorem cv_ge {o : Option Ordering} {op : Jvm.ClassFile.CmpOp} (h : o = some .gt ∨ o = some .eq) : ¬ Op.cmpValue o op < 0 := by
  rcases h with h | h <;> subst h
  · exact (show ¬ (1 : Int32) < 0 by decide)
  · exact (show ¬ (0 : Int32) < 0 by decide)
theorem nd_two : nd (2 ^ 52) (1 - 52) = 4611686018427387904 := by decide +kernel
theorem nd_one : nd (2 ^ 52) (0 - 52) = FP.dconst1 := by decide +kernel
theorem nd_d2l {c f : Nat} (hc : cOK c) (hf : f ≤ 52) : FP.d2l (nd c ((f : Int) - 52)) = lN (c / 2 ^ (52 - f)) := by
  show FP.Core.toL (FP.Core.val64 (nd c ((f : Int) - 52))) = _
  rw [nd_val hc ⟨by omega, by omega⟩]
  show Int64.ofInt (max (-2 ^ 63) (min (2 ^ 63 - 1) ((c * 2 ^ ((f : Int) - 52).toNat / 2 ^ (-((f : Int) - 52)).toNat : Nat) : Int))) = _
  have e1 : ((f : Int) - 52).toNat = 0 := by omega
  have e2 : (-((f : Int) - 52)).toNat = 52 - f := by omega
  rw [e1, e2, Nat.pow_zero, Nat.mul_one]
  have hle : c / 2 ^ (52 - f) ≤ c := Nat.div_le_self _ _
  have hc2 := hc.2
  generalize c / 2 ^ (52 - f) = W at *
  have e3 : max (-2 ^ 63) (min (2 ^ 63 - 1) (W : Int)) = (W : Int) := by omega
  rw [e3]
  rfl
/-! bits of longs -/
theorem bl_or (a b : Nat) : lN a ||| lN b = lN (a ||| b) := by
  apply Int64.toBitVec_inj.1
  show BitVec.ofNat 64 a ||| BitVec.ofNat 64 b = BitVec.ofNat 64 (a ||| b)
  apply BitVec.eq_of_getLsbD_eq
  intro i hi
  simp [hi]
theorem bl_sum {a k : Nat} (b : Nat) (h : a < 2 ^ k) : lN (2 ^ k * b) ||| lN a = lN (2 ^ k * b + a) := by rw [bl_or, Nat.two_pow_add_eq_or_of_lt h]
theorem bl_c : ∀ k, k < 64 → ((nI k).toInt64 &&& 63) = lN k := by decide +kernel
theorem bl_sm : ∀ k, k < 64 → (BitVec.ofNat 64 k).smod 64 = BitVec.ofNat 64 k := by decide +kernel
theorem bl_tb (n : Nat) : (lN n).toBitVec = BitVec.ofNat 64 n := rfl
theorem bl_shl (n : Nat) {k : Nat} (hk : k < 64) : lN n <<< ((nI k).toInt64 &&& 63) = lN (n * 2 ^ k) := by
  rw [bl_c k hk]
  apply Int64.toBitVec_inj.1
  rw [Int64.toBitVec_shiftLeft, bl_tb, bl_tb, bl_tb, bl_sm k hk]
  apply BitVec.eq_of_toNat_eq
  rw [BitVec.shiftLeft_eq', BitVec.toNat_shiftLeft, BitVec.toNat_ofNat, BitVec.toNat_ofNat, BitVec.toNat_ofNat, Nat.mod_eq_of_lt (show k < 2 ^ 64 by omega), Nat.shiftLeft_eq, Nat.mul_mod, Nat.mod_mod, ← Nat.mul_mod]
theorem bl_neg {b : Nat} (h : b < 2 ^ 31) : lN b ||| (-2147483648) = lN b - 2147483648 := by
  have e : (-2147483648 : Int64) = lN (2 ^ 31 * 8589934591) := by decide +kernel
  rw [Int64.or_comm, e, bl_sum _ h, Nat.add_comm, ← lN_add, ← e, Int64.sub_eq_add_neg]
/-! what bits() comes to -/
def bF (six : Bool) : Nat := bif six then 23 else 52
def bB (six : Bool) : Nat := bif six then 127 else 1023
def bP (six : Bool) (c : Nat) (q : Int) : Nat := ((q + 52).toNat + bB six) * 2 ^ bF six + (c / 2 ^ (52 - bF six) - 2 ^ bF six)
def bAns (six : Bool) (r : UInt64) : Int64 := match FP.Core.val64 r with
  | .fin s c q => bif Nat.beq c 0 then 0 else bif s then (bif six then lN (bP six c q) - 2147483648 else lN (bP six c q) ||| (-9223372036854775808)) else lN (bP six c q)
  | _ => 0
theorem bW {six : Bool} {c : Nat} (hc : cOK c) : 2 ^ bF six ≤ c / 2 ^ (52 - bF six) ∧ c / 2 ^ (52 - bF six) - 2 ^ bF six < 2 ^ bF six := by
  obtain ⟨h1, h2⟩ := hc
  cases six
  · show 2 ^ 52 ≤ c / 2 ^ 0 ∧ c / 2 ^ 0 - 2 ^ 52 < 2 ^ 52
    rw [Nat.pow_zero, Nat.div_one]
    omega
  · show 2 ^ 23 ≤ c / 2 ^ 29 ∧ c / 2 ^ 29 - 2 ^ 23 < 2 ^ 23
    omega
/-- a real that is not 0, taken apart -/
theorem nd_of {i : Int} {r : UInt64} (h : FP.Core.DInt i r) (hi : i ≠ 0) (hb : i.natAbs < 2 ^ 85) : ∃ (s : Bool) (c : Nat) (q : Int), cOK c ∧ (-52 ≤ q ∧ q ≤ 32) ∧ FP.Core.val64 r = .fin s c q ∧ s = decide (i < 0) ∧ (s = false → r = nd c q) ∧ (s = true → FP.dneg r = nd c q) := by
  unfold FP.Core.DInt at h
  have hfit := FP.Core.val64_fits r
  have hnn : FP.Core.val64 r ≠ .nan := FP.Core.DInt_ne_nan h
  generalize hd : FP.Core.val64 r = d at h hfit hnn
  cases d with
  | nan => exact h.elim
  | inf => exact h.elim
  | fin s c q =>
    have hN := FP.Core.whole_natAbs h
    have hsg := FP.Core.whole_sign h hi
    obtain ⟨f1, f2, f3, f4⟩ := hfit
    rw [b64_p] at f1
    rw [FP.Core.qmin_b64] at f2 f4
    rw [FP.Core.tails_b64] at f4
    have hpos : 1 ≤ i.natAbs := by omega
    have big : ∀ k, 53 ≤ k → c ≠ i.natAbs * 2 ^ k := by
      intro k hk he
      have w1 : 2 ^ 53 ≤ 2 ^ k := Nat.pow_le_pow_right (by decide) hk
      have w2 : 1 * 2 ^ k ≤ i.natAbs * 2 ^ k := Nat.mul_le_mul_right _ hpos
      omega
    have hq1 : -52 ≤ q := by
      refine Int.le_of_not_gt fun hlt => ?_
      have e1 : q.toNat = 0 := by omega
      rw [e1, Nat.pow_zero, Nat.mul_one] at hN
      exact big _ (by omega) hN
    have hc1 : 2 ^ 52 ≤ c := by
      rcases f4 with z | z
      · omega
      · exact z
    have hq2 : q ≤ 32 := by
      refine Int.le_of_not_gt fun hgt => ?_
      have e1 : (-q).toNat = 0 := by omega
      rw [e1, Nat.pow_zero, Nat.mul_one] at hN
      have w1 : 2 ^ 33 ≤ 2 ^ q.toNat := Nat.pow_le_pow_right (by decide) (by omega)
      have w2 : 2 ^ 52 * 2 ^ 33 ≤ c * 2 ^ q.toNat := Nat.mul_le_mul hc1 w1
      omega
    have hc : cOK c := ⟨hc1, f1⟩
    have hq : qOK q := ⟨by omega, by omega⟩
    refine ⟨s, c, q, hc, ⟨hq1, hq2⟩, rfl, hsg, ?_, ?_⟩
    · intro hs
      subst hs
      exact (FP.Core.val64_inj (nd_nn hc hq) (by rw [nd_val hc hq, hd])).symm
    · intro hs
      subst hs
      refine (FP.Core.val64_inj (nd_nn hc hq) ?_).symm
      rw [nd_val hc hq, FP.val64_dneg, hd]
      rfl
theorem nd_sgn {i : Int} {r : UInt64} (h : FP.Core.DInt i r) : FP.dcmp r FP.dconst0 = some (compare i 0) := by
  refine FP.Core.order_whole h ?_
  show FP.Core.Whole 0 (FP.Core.val64 FP.Core.dconst0)
  rw [FP.Core.val64_dconst0]
  exact fl_mk (N := 0) (s := false) (by simp)
