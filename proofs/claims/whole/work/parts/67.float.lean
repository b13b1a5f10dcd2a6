/-! REALS: whole numbers, rounded, are whole numbers -/
theorem fl_mk {s : Bool} {c : Nat} {q : Int} {N : Nat} (h : c * 2 ^ q.toNat = N * 2 ^ (-q).toNat) : FP.Core.Whole (FP.Core.signed s N) (.fin s c q) := by
  show FP.Core.signed s (c * 2 ^ q.toNat) = FP.Core.signed s N * _
  rw [h, FP.Core.signed_mul]
theorem fl_settle {f : FP.Core.Fmt} (hf : FP.Core.Good f) {s : Bool} {c N : Nat} {q : Int} (hc : c ≤ 2 ^ f.p) (hq : q + 1 ≤ f.qmax) (h : c * 2 ^ q.toNat = N * 2 ^ (-q).toNat) : FP.Core.Whole (FP.Core.signed s N) (FP.Core.settle f s c q) := by
  unfold FP.Core.settle FP.Core.bound
  by_cases h1 : c < 2 ^ f.p
  · rw [if_pos h1, if_pos (by omega)]
    exact fl_mk h
  · rw [if_neg h1, if_pos hq]
    have h2 := FP.Core.two_tails hf
    have h3 : c = 2 * f.tails := by omega
    refine fl_mk ?_
    rw [h3] at h
    by_cases hz : 0 ≤ q
    · have e1 : (q + 1).toNat = q.toNat + 1 := by omega
      have e2 : (-q).toNat = 0 := by omega
      have e3 : (-(q + 1)).toNat = 0 := by omega
      rw [e2] at h
      rw [e1, e3, Nat.pow_succ, ← h, Nat.mul_comm 2 f.tails, Nat.mul_assoc, Nat.mul_comm 2 (2 ^ q.toNat)]
    · have e1 : (q + 1).toNat = 0 := by omega
      have e2 : q.toNat = 0 := by omega
      have e3 : (-q).toNat = (-(q + 1)).toNat + 1 := by omega
      rw [e2, e3, Nat.pow_succ, ← Nat.mul_assoc] at h
      rw [e1]
      generalize N * 2 ^ (-(q + 1)).toNat = W at *
      omega
theorem fl_nat {f : FP.Core.Fmt} (hf : FP.Core.Good f) (hp : 24 ≤ f.p) (hmx : 64 ≤ f.qmax) (hmn : f.qmin ≤ 0) {N κ : Nat} (hk : κ < 2 ^ 21) (hN : N ≤ κ * 2 ^ 63) (s : Bool) : ∃ M : Nat, FP.Core.Whole (FP.Core.signed s M) (FP.Core.roundRatio f s N 1 0) ∧ M ≤ κ * 2 ^ 63 := by
  unfold FP.Core.roundRatio
  by_cases h0 : N = 0
  · rw [if_pos h0]
    exact ⟨0, fl_mk (by simp), Nat.zero_le _⟩
  rw [if_neg h0]
  have hc := FP.Core.nearest_units_le (f := f) (A := N) (B := 1) (by omega) (by decide) 0
  have hq61 : FP.Core.quantum f N 1 0 ≤ 61 := by
    rcases FP.Core.quantum_not_below (f := f) (A := N) (B := 1) (by omega) (by decide) 0 with z | z
    · omega
    · refine Int.le_of_lt_add_one (Int.lt_of_not_ge fun hge => z ?_)
      unfold FP.Core.Below
      generalize FP.Core.quantum f N 1 0 = q at *
      have e1 : (-(q - 0 + ((f.p : Int) - 1))).toNat = 0 := by omega
      rw [e1]
      have e2 : 85 ≤ (q - 0 + ((f.p : Int) - 1)).toNat := by omega
      have e3 : 2 ^ 85 ≤ 2 ^ (q - 0 + ((f.p : Int) - 1)).toNat := Nat.pow_le_pow_right (by decide) e2
      have e4 : κ * 2 ^ 63 ≤ 2 ^ 21 * 2 ^ 63 := Nat.mul_le_mul_right _ (by omega)
      omega
  unfold FP.Core.roundAt
  generalize FP.Core.quantum f N 1 0 = q at *
  by_cases hq : q ≤ 0
  · have e1 : (q - 0).toNat = 0 := by omega
    have e2 : (0 - q).toNat = (-q).toNat := by omega
    have e3 : q.toNat = 0 := by omega
    have en : FP.Core.nearest (FP.Core.unitsNum N 0 q) (FP.Core.unitsDen 1 0 q) = N * 2 ^ (-q).toNat := by
      unfold FP.Core.unitsNum FP.Core.unitsDen
      rw [e1, e2]
      have := FP.Core.nearest_exact (B := 1) (N * 2 ^ (-q).toNat) (by decide)
      rw [Nat.mul_one] at this
      exact this
    rw [en] at hc ⊢
    refine ⟨N, fl_settle hf hc (by omega) ?_, hN⟩
    rw [e3]
    simp
  · have e1 : (0 - q).toNat = 0 := by omega
    have e2 : (q - 0).toNat = q.toNat := by omega
    have e3 : (-q).toNat = 0 := by omega
    have en : FP.Core.nearest (FP.Core.unitsNum N 0 q) (FP.Core.unitsDen 1 0 q) = FP.Core.nearest N (2 ^ q.toNat) := by
      unfold FP.Core.unitsNum FP.Core.unitsDen
      rw [e1, e2]
      simp
    rw [en] at hc ⊢
    have hsplit : κ * 2 ^ (63 - q.toNat) * 2 ^ q.toNat = κ * 2 ^ 63 := by
      rw [Nat.mul_assoc, ← Nat.pow_add]
      congr 2
      omega
    have hle : FP.Core.nearest N (2 ^ q.toNat) ≤ κ * 2 ^ (63 - q.toNat) := FP.Core.nearest_le (Nat.two_pow_pos _) (by rw [hsplit]; exact hN)
    refine ⟨FP.Core.nearest N (2 ^ q.toNat) * 2 ^ q.toNat, fl_settle hf hc (by omega) ?_, ?_⟩
    · rw [e3]
      simp
    · rw [← hsplit]
      exact Nat.mul_le_mul_right _ hle
theorem fl_round {f : FP.Core.Fmt} (hf : FP.Core.Good f) (hp : 24 ≤ f.p) (hmx : 64 ≤ f.qmax) (hmn : f.qmin ≤ 0) {i : Int} {d : FP.Core.Datum} (h : FP.Core.Whole i d) {κ : Nat} (hk : κ < 2 ^ 21) (hi : i.natAbs ≤ κ * 2 ^ 63) : ∃ j : Int, FP.Core.Whole j (FP.Core.round f d) ∧ j.natAbs ≤ κ * 2 ^ 63 := by
  cases d with
  | nan => exact h.elim
  | inf => exact h.elim
  | fin s c q =>
    rw [FP.Core.round_whole h]
    obtain ⟨M, h1, h2⟩ := fl_nat hf hp hmx hmn hk hi s
    exact ⟨_, h1, by rw [FP.Core.natAbs_signed]; exact h2⟩
theorem fl_64 {i : Int} {d : FP.Core.Datum} (h : FP.Core.Whole i d) {κ : Nat} (hk : κ < 2 ^ 21) (hi : i.natAbs ≤ κ * 2 ^ 63) : ∃ j : Int, FP.Core.Whole j (FP.Core.round FP.Core.b64 d) ∧ j.natAbs ≤ κ * 2 ^ 63 :=
  fl_round FP.Core.good_b64 (by decide) (by decide) (by decide) h hk hi
theorem fl_32 {i : Int} {d : FP.Core.Datum} (h : FP.Core.Whole i d) {κ : Nat} (hk : κ < 2 ^ 21) (hi : i.natAbs ≤ κ * 2 ^ 63) : ∃ j : Int, FP.Core.Whole j (FP.Core.round FP.Core.b32 d) ∧ j.natAbs ≤ κ * 2 ^ 63 :=
  fl_round FP.Core.good_b32 (by decide) (by decide) (by decide) h hk hi
theorem fl_n64 {i : Int} {a : UInt64} (h : FP.Core.DInt i a) : vf_n64 a := by
  have := (FP.Core.ne_nan a).mp (FP.Core.DInt_ne_nan h)
  unfold vf_n64
  rw [UInt64.le_iff_toNat_le, FP.Core.mask_toNat]
  exact this
theorem fl_n32 {i : Int} {a : UInt32} (h : FP.Core.FInt i a) : vf_n32 a := by
  have := (FP.Core.ne_nan32 a).mp (FP.Core.FInt_ne_nan h)
  unfold vf_n32
  rw [UInt32.le_iff_toNat_le, FP.Core.mask_toNat32]
  exact this
theorem fl_nn64 {i : Int} {a : UInt64} (h : FP.Core.DInt i a) : FP.dIsNaN a = false := (FP.Core.notNaN_iff a).mpr (FP.Core.DInt_ne_nan h)
theorem fl_nn32 {i : Int} {a : UInt32} (h : FP.Core.FInt i a) : FP.fIsNaN a = false := (FP.Core.notNaN_iff32 a).mpr (FP.Core.FInt_ne_nan h)
theorem fl_l2d (v : Int64) : ∃ j : Int, FP.Core.DInt j (FP.l2d v) ∧ j.natAbs ≤ 1 * 2 ^ 63 := by
  have h := fl_64 (FP.Core.whole_ofInt v.toInt) (κ := 1) (by decide) (by rw [Nat.one_mul]; exact FP.Core.int64_abs v)
  rw [← FP.Core.val64_l2d] at h
  exact h
theorem fl_l2f (v : Int64) : ∃ j : Int, FP.Core.FInt j (FP.l2f v) ∧ j.natAbs ≤ 1 * 2 ^ 63 := by
  have h := fl_32 (FP.Core.whole_ofInt v.toInt) (κ := 1) (by decide) (by rw [Nat.one_mul]; exact FP.Core.int64_abs v)
  rw [← FP.Core.val32_l2f] at h
  exact h
theorem fl_move {s : Bool} {c c' N : Nat} {q q' : Int} (h : c * 2 ^ q.toNat = N * 2 ^ (-q).toNat) (hv : c * 2 ^ (q - q').toNat = c' * 2 ^ (q' - q).toNat) : c' * 2 ^ q'.toNat = N * 2 ^ (-q').toNat := by
  have hpos : 0 < 2 ^ ((q' - q).toNat + (-q).toNat) := Nat.two_pow_pos _
  refine Nat.eq_of_mul_eq_mul_right hpos ?_
  have k : (q - q').toNat + q'.toNat + (-q).toNat = (q' - q).toNat + q.toNat + (-q').toNat := by omega
  calc c' * 2 ^ q'.toNat * 2 ^ ((q' - q).toNat + (-q).toNat) = c' * 2 ^ (q' - q).toNat * 2 ^ (q'.toNat + (-q).toNat) := by
        rw [Nat.mul_assoc, Nat.mul_assoc, ← Nat.pow_add, ← Nat.pow_add]; congr 2; omega
    _ = c * 2 ^ (q - q').toNat * 2 ^ (q'.toNat + (-q).toNat) := by rw [hv]
    _ = c * 2 ^ q.toNat * 2 ^ ((q' - q).toNat + (-q').toNat) := by
        rw [Nat.mul_assoc, Nat.mul_assoc, ← Nat.pow_add, ← Nat.pow_add]; congr 2; omega
    _ = N * 2 ^ (-q).toNat * 2 ^ ((q' - q).toNat + (-q').toNat) := by rw [h]
    _ = N * 2 ^ (-q').toNat * 2 ^ ((q' - q).toNat + (-q).toNat) := by
        rw [Nat.mul_assoc, Nat.mul_assoc, ← Nat.pow_add, ← Nat.pow_add]; congr 2; omega
theorem fl_sgn {s : Bool} {c : Nat} {q i : Int} (h : FP.Core.Whole i (.fin s c q)) : i = FP.Core.signed s i.natAbs := by
  by_cases hi : i = 0
  · subst hi
    exact (FP.Core.signed_zero s).symm
  · rw [FP.Core.whole_sign h hi]
    unfold FP.Core.signed
    by_cases h : i < 0 <;> simp [h] <;> omega
theorem fl_f2d {i : Int} {a : UInt32} (h : FP.Core.FInt i a) : FP.Core.DInt i (FP.f2d a) := by
  rw [FP.f2d_core (fl_nn32 h)]
  unfold FP.Core.FInt at h
  unfold FP.Core.DInt
  rw [FP.Core.val64_f2d]
  have hfit := FP.Core.val32_fits a
  generalize FP.Core.val32 a = d at h hfit
  cases d with
  | nan => exact h.elim
  | inf => exact h.elim
  | fin s c q =>
    obtain ⟨c', q', hfit', hz, hv⟩ := FP.Core.within_fit FP.Core.good_b64 FP.Core.within_32_64 hfit
    have h1 : FP.Core.round FP.Core.b64 (.fin s c q) = .fin s c' q' := FP.Core.roundRatio_exact FP.Core.good_b64 (by decide) hfit' hv
    rw [h1]
    rw [Nat.mul_one] at hv
    rw [fl_sgn h]
    exact fl_mk (fl_move (s := s) (FP.Core.whole_natAbs h) hv)
theorem fl_toL {i : Int} {d : FP.Core.Datum} (h : FP.Core.Whole i d) : FP.Core.toL d = Int64.ofInt (max (-2 ^ 63) (min (2 ^ 63 - 1) i)) := by
  cases d with
  | nan => exact h.elim
  | inf => exact h.elim
  | fin s c q =>
    show Int64.ofInt (max (-2 ^ 63) (min (2 ^ 63 - 1) (FP.Core.truncate s c q))) = _
    rw [FP.Core.truncate_whole h]
theorem f1_ok : fOK1 := by
  intro a
  obtain ⟨j, h1, h2⟩ := fl_l2f a
  exact fl_n64 (fl_f2d h1)
theorem fc_ok : fCut := by
  intro v
  obtain ⟨j, h1, h2⟩ := fl_l2f v
  have e1 : FP.d2l (FP.f2d (FP.l2f v)) = _ := fl_toL (fl_f2d h1)
  have e2 : FP.f2l (FP.l2f v) = _ := fl_toL h1
  rw [e1, e2]
/-- a whole number of at most b times 2^63 -/
def GG (b : Int) (r : UInt64) : Prop := ∃ i : Int, FP.Core.DInt i r ∧ (i.natAbs : Int) ≤ b * 9223372036854775808
theorem GG_nat {b : Int} {r : UInt64} (h : GG b r) (hb : b ≤ gB + 3000) : ∃ (κ : Nat) (i : Int), b = κ ∧ κ + 1 < 2 ^ 21 ∧ FP.Core.DInt i r ∧ i.natAbs ≤ κ * 2 ^ 63 := by
  obtain ⟨i, h1, h2⟩ := h
  unfold gB at hb
  refine ⟨b.toNat, i, by omega, by omega, h1, by omega⟩
theorem GG_of {κ : Nat} {b i : Int} {r : UInt64} (hb : b = κ) (h1 : FP.Core.DInt i r) (h2 : i.natAbs ≤ κ * 2 ^ 63) : GG b r := ⟨i, h1, by omega⟩
theorem go_ok : GO GG := by
  refine ⟨?_, ?_, ?_, ?_⟩
  · intro b r hG hb m
    obtain ⟨κ, i, e, hk, h1, h2⟩ := GG_nat hG hb
    refine ⟨?_, ?_⟩
    · have d1 : FP.d2f r = FP.Core.d2f r := FP.d2f_core (fl_nn64 h1)
      obtain ⟨j, j1, j2⟩ := fl_32 h1 (κ := κ) (by omega) h2
      have j1 : FP.Core.FInt j (FP.d2f r) := by
        rw [d1]
        unfold FP.Core.FInt
        rw [FP.Core.val32_d2f]
        exact j1
      obtain ⟨l, l1, l2⟩ := fl_l2f m
      have hs := FP.Core.whole_sum j1 l1
      obtain ⟨u, u1, u2⟩ := fl_32 hs (κ := κ + 1) (by omega) (by omega)
      have u1 : FP.Core.FInt u (FP.fadd (FP.d2f r) (FP.l2f m)) := by
        unfold FP.Core.FInt
        rw [FP.fadd_core, FP.Core.val32_fadd]
        exact u1
      exact ⟨⟨fl_n32 j1, fl_n32 u1, fl_n64 (fl_f2d u1)⟩, GG_of (κ := κ + 1) (by omega) (fl_f2d u1) u2⟩
    · obtain ⟨l, l1, l2⟩ := fl_l2d m
      have hs := FP.Core.whole_sum h1 l1
      obtain ⟨u, u1, u2⟩ := fl_64 hs (κ := κ + 1) (by omega) (by omega)
      have u1 : FP.Core.DInt u (FP.dadd r (FP.l2d m)) := by
        unfold FP.Core.DInt
        rw [FP.dadd_core, FP.Core.val64_dadd]
        exact u1
      exact ⟨fl_n64 u1, GG_of (κ := κ + 1) (by omega) u1 u2⟩
  · intro b hb
    refine ⟨0, ?_, by show ((0 : Int).natAbs : Int) ≤ _; omega⟩
    show FP.Core.Whole 0 (FP.Core.val64 FP.Core.dconst0)
    rw [FP.Core.val64_dconst0]
    exact fl_mk (N := 0) (s := false) (by simp)
  · intro b c r ⟨i, h1, h2⟩ hbc
    exact ⟨i, h1, by omega⟩
  · intro v
    obtain ⟨j, h1, h2⟩ := fl_l2f v
    obtain ⟨l, l1, l2⟩ := fl_l2d v
    exact ⟨GG_of (κ := 1) rfl (fl_f2d h1) h2, GG_of (κ := 1) rfl l1 l2⟩
