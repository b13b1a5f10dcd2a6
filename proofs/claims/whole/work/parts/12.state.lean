/-! THE STATES. The class: program (count, codes, a, b, c, d, lengths of lists), heap (things, elements, types, starts, lengths, amounts, reals), worker (kinds and amounts of variables, trace, held kinds and amounts, held; kind, amount, failure, failedAt, nodesWorked, noted, catches). -/
abbrev SP : Type := Int32 × (Nat → Int32) × (Nat → Int32) × (Nat → Int32) × (Nat → Int32) × (Nat → Int32) × (Nat → Int32)
abbrev SH : Type := Int32 × Int32 × (Nat → Int32) × (Nat → Int32) × (Nat → Int32) × (Nat → Int64) × (Nat → UInt64)
abbrev SV : Type := (Nat → Int32) × (Nat → Int64) × (Nat → Int32) × (Nat → Int32) × (Nat → Int64) × Int32
abbrev SR : Type := Int32 × Int64 × Int32 × Int32 × Int32 × Int32 × Int32
abbrev SS : Type := SH × SV × SR
abbrev pN (P : SP) : Int32 := P.1
abbrev pC (P : SP) : Nat → Int32 := P.2.1
abbrev pa (P : SP) : Nat → Int32 := P.2.2.1
abbrev pb (P : SP) : Nat → Int32 := P.2.2.2.1
abbrev pc' (P : SP) : Nat → Int32 := P.2.2.2.2.1
abbrev pd (P : SP) : Nat → Int32 := P.2.2.2.2.2.1
abbrev pL (P : SP) : Nat → Int32 := P.2.2.2.2.2.2
abbrev hTh (h : SH) : Int32 := h.1
abbrev hEl (h : SH) : Int32 := h.2.1
abbrev hTy (h : SH) : Nat → Int32 := h.2.2.1
abbrev hSt (h : SH) : Nat → Int32 := h.2.2.2.1
abbrev hLe (h : SH) : Nat → Int32 := h.2.2.2.2.1
abbrev hAm (h : SH) : Nat → Int64 := h.2.2.2.2.2.1
abbrev hRe (h : SH) : Nat → UInt64 := h.2.2.2.2.2.2
abbrev vK (v : SV) : Nat → Int32 := v.1
abbrev vA (v : SV) : Nat → Int64 := v.2.1
abbrev vT (v : SV) : Nat → Int32 := v.2.2.1
abbrev vHK (v : SV) : Nat → Int32 := v.2.2.2.1
abbrev vHA (v : SV) : Nat → Int64 := v.2.2.2.2.1
abbrev vH (v : SV) : Int32 := v.2.2.2.2.2
abbrev rK (r : SR) : Int32 := r.1
abbrev rA (r : SR) : Int64 := r.2.1
abbrev rF (r : SR) : Int32 := r.2.2.1
abbrev rW (r : SR) : Int32 := r.2.2.2.1
abbrev rN (r : SR) : Int32 := r.2.2.2.2.1
abbrev rT (r : SR) : Int32 := r.2.2.2.2.2.1
abbrev rC (r : SR) : Int32 := r.2.2.2.2.2.2
/-- the class's cells: 0 the object, 1 its program, 2 its heap, 3 its worker, then their rows -/
def wC (P : SP) (S : SS) : xW :=
  [.inr (3, [.ref 1, .ref 2, .ref 3]),
   .inr (1, [.ref 4, .ref 5, .ref 6, .ref 7, .ref 8, .ref 9, .int (pN P)]),
   .inr (0, [.ref 10, .ref 11, .ref 12, .ref 13, .ref 14, .int (hTh S.1), .int (hEl S.1)]),
   .inr (2, [.ref 1, .ref 2, .ref 15, .ref 16, .ref 17, .ref 18, .ref 19, .int (vH S.2.1), .int (rK S.2.2), .long (rA S.2.2), .int (rF S.2.2), .int (rW S.2.2), .int (rN S.2.2), .int (rT S.2.2), .int (rC S.2.2)]),
   .inl (0, 80, .inl (pC P)), .inl (0, 80, .inl (pa P)), .inl (0, 80, .inl (pb P)), .inl (0, 80, .inl (pc' P)), .inl (0, 80, .inl (pd P)), .inl (0, 80, .inl (pL P)),
   .inl (0, 400, .inl (hTy S.1)), .inl (0, 400, .inl (hSt S.1)), .inl (0, 400, .inl (hLe S.1)), .inl (1, 4000, .inr (.inl (hAm S.1))), .inl (2, 4000, .inr (.inr (.inr (.inl (hRe S.1))))),
   .inl (0, 8, .inl (vK S.2.1)), .inl (1, 8, .inr (.inl (vA S.2.1))), .inl (0, 256, .inl (vT S.2.1)), .inl (0, 1600, .inl (vHK S.2.1)), .inl (1, 1600, .inr (.inl (vHA S.2.1)))]
abbrev ix (i : Int32) : Nat := i.toNatClampNeg
def bI (b : Bool) : Int32 := match b with
  | true => 1
  | false => 0
theorem bI01 (b : Bool) : bI b = 0 ∨ bI b = 1 := by cases b <;> simp [bI]
theorem bI_0 {b : Bool} (h : bI b = 0) : b = false := by cases b <;> simp_all [bI]
theorem bI_1 {b : Bool} (h : ¬ bI b = 0) : b = true := by cases b <;> simp_all [bI]
theorem bI_eq0 (b : Bool) : (bI b = 0) = (b = false) := by cases b <;> simp [bI]
theorem bI_ne0 (b : Bool) : (¬ bI b = 0) = (b = true) := by cases b <;> simp [bI]
theorem bI_inj (a b : Bool) : (bI a = bI b) = (a = b) := by cases a <;> cases b <;> simp [bI]
theorem lc_0 (x y : Int64) : (lg_cmp x y = 0) = (x = y) := by
  unfold lg_cmp
  split
  · next h => simp; intro z; subst z; simp at h
  · split
    · next h => simp [h]
    · next h => simp [h]
theorem lc_lt (x y : Int64) : (lg_cmp x y < 0) = (x < y) := by
  unfold lg_cmp
  split
  · next h =>
    simp only [eq_iff_iff]
    constructor
    · intro z; exact absurd z (by decide)
    · intro z
      rw [Int64.lt_iff_toInt_lt] at z
      have h : y < x := h
      rw [Int64.lt_iff_toInt_lt] at h
      omega
  · next h =>
    have h : ¬ y < x := h
    rw [Int64.lt_iff_toInt_lt] at h
    split
    · next h2 =>
      subst h2
      simp only [eq_iff_iff]
      constructor
      · intro z; exact absurd z (by decide)
      · intro z; rw [Int64.lt_iff_toInt_lt] at z; omega
    · next h2 =>
      simp only [eq_iff_iff]
      constructor
      · intro _
        rw [Int64.lt_iff_toInt_lt]
        have : x.toInt ≠ y.toInt := fun z => h2 (Int64.toInt_inj.mp z)
        omega
      · intro _; decide
theorem lc_gt (x y : Int64) : (0 < lg_cmp x y) = (y < x) := by
  unfold lg_cmp
  split
  · next h =>
    have h : y < x := h
    simp [h]
  · next h =>
    have h : ¬ y < x := h
    split
    · next h2 => simp [h]
    · next h2 =>
      simp only [eq_iff_iff]
      constructor
      · intro z; exact absurd z (by decide)
      · intro z; exact absurd z h
theorem lc_ge (x y : Int64) : (0 ≤ lg_cmp x y) = (¬ x < y) := by
  rw [← lc_lt, Int32.not_lt]
theorem lc_le (x y : Int64) : (lg_cmp x y ≤ 0) = (¬ y < x) := by
  rw [← lc_gt, Int32.not_lt]
