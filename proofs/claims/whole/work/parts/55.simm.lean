/-! the making of arrays of arrays, as both have it -/
def hSetP (h : SH) (p : Nat) (v : Int64) : SH := hSetAm h (x_up (hAm h) p v)
def uIn (h : SH) (ty z : Int32) (c : Nat) : Nat → SH
  | 0 => h
  | k + 1 => hSetP (uMk (uIn h ty z c k) ty z) (c + k) (hTh (uIn h ty z c k)).toInt64
def uOut (h : SH) (ty y z : Int32) (th : Bool) (c : Nat) : Nat → SH
  | 0 => h
  | i + 1 => bif th then uIn (hSetP (uMk (uOut h ty y z th c i) (ty - 16) y) (c + i) (hTh (uOut h ty y z th c i)).toInt64) (ty - 32) z (ix (hEl (uOut h ty y z th c i))) (ix y) else hSetP (uMk (uOut h ty y z th c i) (ty - 16) y) (c + i) (hTh (uOut h ty y z th c i)).toInt64
/-- there is room for a things and e elements -/
def RO (h : SH) (a e : Nat) : Prop := 0 ≤ (hTh h).toInt ∧ (hTh h).toInt + a ≤ 400 ∧ 0 ≤ (hEl h).toInt ∧ (hEl h).toInt + e ≤ 4000
theorem uMk_cnt {h : SH} {t l : Int32} {L : Nat} (hl : l = nI L) (hr : RO h 1 L) : (hTh (uMk h t l)).toInt = (hTh h).toInt + 1 ∧ (hEl (uMk h t l)).toInt = (hEl h).toInt + L ∧ ix (hEl (uMk h t l)) = ix (hEl h) + L := by
  obtain ⟨h0, h1, h2, h3⟩ := hr
  have hL : L ≤ 4000 := by omega
  have e1 : (hTh (uMk h t l)).toInt = (hTh h).toInt + 1 := by
    show (hTh h + 1).toInt = _
    exact i_add1 (n := 400) h0 (by omega) (by decide)
  have e2 : (hEl (uMk h t l)).toInt = (hEl h).toInt + L := by
    show (hEl h + (bif decide (l ≤ 0) then 0 else l)).toInt = _
    subst hl
    have hz : (nI L).toInt = L := nI_toInt (by omega)
    by_cases c : nI L ≤ 0
    · rw [decide_eq_true c, cond_true]
      have := i_le c
      have e0 : (0 : Int32).toInt = 0 := rfl
      rw [i_add (by omega) (by omega)]
      omega
    · rw [decide_eq_false c, cond_false]
      rw [i_add (by omega) (by omega)]
      omega
  refine ⟨e1, e2, ?_⟩
  rw [ix_eq, ix_eq, e2]
  omega
theorem uMk_st {h : SH} {t l : Int32} {q : Nat} (hq : q ≠ ix (hTh h)) : hSt (uMk h t l) q = hSt h q ∧ hLe (uMk h t l) q = hLe h q := ⟨x_up_ne _ _ hq, x_up_ne _ _ hq⟩
theorem uMk_new {h : SH} {t l : Int32} : hSt (uMk h t l) (ix (hTh h)) = hEl h ∧ hLe (uMk h t l) (ix (hTh h)) = l := ⟨x_up_self _ _ _, x_up_self _ _ _⟩
theorem RO.less {h : SH} {a e a' e' : Nat} (hr : RO h a e) (ha : a' ≤ a) (he : e' ≤ e) : RO h a' e' := by
  obtain ⟨h0, h1, h2, h3⟩ := hr
  exact ⟨h0, by omega, h2, by omega⟩
theorem uIn_cnt {h : SH} {ty z : Int32} {c Z : Nat} (hz : z = nI Z) : ∀ k : Nat, RO h k (k * Z) → (hTh (uIn h ty z c k)).toInt = (hTh h).toInt + k ∧ (hEl (uIn h ty z c k)).toInt = (hEl h).toInt + ((k * Z : Nat) : Int) ∧ ∀ q : Nat, (q : Int) < (hTh h).toInt → hSt (uIn h ty z c k) q = hSt h q
  | 0, hr => ⟨by simp [uIn], by simp [uIn], fun _ _ => rfl⟩
  | k + 1, hr => by
    have hm : (k + 1) * Z = k * Z + Z := Nat.succ_mul k Z
    obtain ⟨i1, i2, i3⟩ := uIn_cnt (ty := ty) (c := c) hz k (hr.less (by omega) (by omega))
    obtain ⟨h0, h1, h2, h3⟩ := hr
    have hr2 : RO (uIn h ty z c k) 1 Z := ⟨by omega, by omega, by omega, by omega⟩
    obtain ⟨j1, j2, j3⟩ := uMk_cnt (t := ty) hz hr2
    refine ⟨?_, ?_, ?_⟩
    · show (hTh (uMk (uIn h ty z c k) ty z)).toInt = _
      omega
    · show (hEl (uMk (uIn h ty z c k) ty z)).toInt = _
      omega
    · intro q hq
      show hSt (uMk (uIn h ty z c k) ty z) q = _
      rw [(uMk_st (by rw [ix_eq]; omega)).1]
      exact i3 q hq
theorem uOut_cnt {h : SH} {ty y z : Int32} {th : Bool} {c Y Z : Nat} (hy : y = nI Y) (hz : th = true → z = nI Z) (hY : Y < 2 ^ 31) {A B : Nat} (hA : A = 1 + (bif th then Y else 0)) (hB : B = Y + (bif th then Y * Z else 0)) : ∀ i : Nat, RO h (i * A) (i * B) → (hTh (uOut h ty y z th c i)).toInt = (hTh h).toInt + ((i * A : Nat) : Int) ∧ (hEl (uOut h ty y z th c i)).toInt = (hEl h).toInt + ((i * B : Nat) : Int) ∧ ∀ q : Nat, (q : Int) < (hTh h).toInt → hSt (uOut h ty y z th c i) q = hSt h q
  | 0, hr => ⟨by simp [uOut], by simp [uOut], fun _ _ => rfl⟩
  | i + 1, hr => by
    have hm : (i + 1) * A = i * A + A := Nat.succ_mul i A
    have hm2 : (i + 1) * B = i * B + B := Nat.succ_mul i B
    obtain ⟨i1, i2, i3⟩ := uOut_cnt (ty := ty) (c := c) hy hz hY hA hB i (hr.less (by omega) (by omega))
    obtain ⟨h0, h1, h2, h3⟩ := hr
    have hr2 : RO (uOut h ty y z th c i) 1 Y := ⟨by omega, by omega, by omega, by omega⟩
    obtain ⟨j1, j2, j3⟩ := uMk_cnt (t := ty - 16) hy hr2
    cases th
    · simp only [cond_false] at hA hB
      refine ⟨?_, ?_, ?_⟩
      · show (hTh (uMk (uOut h ty y z false c i) (ty - 16) y)).toInt = _
        omega
      · show (hEl (uMk (uOut h ty y z false c i) (ty - 16) y)).toInt = _
        omega
      · intro q hq
        show hSt (uMk (uOut h ty y z false c i) (ty - 16) y) q = _
        rw [(uMk_st (by rw [ix_eq]; omega)).1]
        exact i3 q hq
    · simp only [cond_true] at hA hB
      have eY : ix y = Y := by rw [hy]; exact ix_nI hY
      have hr3 : RO (hSetP (uMk (uOut h ty y z true c i) (ty - 16) y) (c + i) (hTh (uOut h ty y z true c i)).toInt64) Y (Y * Z) := by
        show RO (uMk (uOut h ty y z true c i) (ty - 16) y) Y (Y * Z)
        exact ⟨by omega, by omega, by omega, by omega⟩
      obtain ⟨k1, k2, k3⟩ := uIn_cnt (ty := ty - 32) (c := ix (hEl (uOut h ty y z true c i))) (hz rfl) Y hr3
      have e1 : (hTh (hSetP (uMk (uOut h ty y z true c i) (ty - 16) y) (c + i) (hTh (uOut h ty y z true c i)).toInt64)).toInt = (hTh (uMk (uOut h ty y z true c i) (ty - 16) y)).toInt := rfl
      have e2 : (hEl (hSetP (uMk (uOut h ty y z true c i) (ty - 16) y) (c + i) (hTh (uOut h ty y z true c i)).toInt64)).toInt = (hEl (uMk (uOut h ty y z true c i) (ty - 16) y)).toInt := rfl
      rw [e1] at k1 k3
      rw [e2] at k2
      unfold uOut
      simp only [cond_true]
      rw [eY]
      refine ⟨by omega, by omega, ?_⟩
      intro q hq
      rw [k3 q (by omega)]
      show hSt (uMk (uOut h ty y z true c i) (ty - 16) y) q = _
      rw [(uMk_st (by rw [ix_eq]; omega)).1]
      exact i3 q hq
/-! what is laid at a place already there, and what is made behind it, in either order -/
theorem x_up_comm {α : Type} (f : Nat → α) {p q : Nat} (a b : α) (h : p ≠ q) : x_up (x_up f p a) q b = x_up (x_up f q b) p a := by
  funext j
  by_cases h1 : j = q
  · subst h1
    rw [x_up_self, x_up_ne _ _ (fun z => h z.symm), x_up_self]
  · rw [x_up_ne _ _ h1]
    by_cases h2 : j = p
    · subst h2
      rw [x_up_self, x_up_self]
    · rw [x_up_ne _ _ h2, x_up_ne _ _ h2, x_up_ne _ _ h1]
theorem fillV_up {am : Nat → Int64} {s p : Nat} {w v : Int64} (h : p < s) : ∀ n, fillV (x_up am p v) s w n = x_up (fillV am s w n) p v
  | 0 => rfl
  | n + 1 => by
    unfold fillV
    rw [fillV_up h n]
    exact x_up_comm _ _ _ (by omega)
theorem uMk_setP {h : SH} {t l : Int32} {p : Nat} {v : Int64} (hp : p < ix (hEl h)) : uMk (hSetP h p v) t l = hSetP (uMk h t l) p v := by
  unfold uMk hSetP hSetAm
  simp only [hTh, hEl, hTy, hSt, hLe, hAm, hRe]
  rw [fillV_up hp]
theorem hSetP_comm {h : SH} {p q : Nat} {a b : Int64} (hpq : p ≠ q) : hSetP (hSetP h p a) q b = hSetP (hSetP h q b) p a := by
  unfold hSetP hSetAm
  simp only [hAm]
  rw [x_up_comm _ _ _ hpq]
theorem uIn_setP {h : SH} {ty z : Int32} {c p Z : Nat} {v : Int64} (hz : z = nI Z) (hp : p < ix (hEl h)) (hc : p < c) : ∀ k : Nat, RO h k (k * Z) → uIn (hSetP h p v) ty z c k = hSetP (uIn h ty z c k) p v
  | 0, _ => rfl
  | k + 1, hr => by
    have hm : (k + 1) * Z = k * Z + Z := Nat.succ_mul k Z
    have hr0 := hr.less (a' := k) (e' := k * Z) (by omega) (by omega)
    obtain ⟨i1, i2, i3⟩ := uIn_cnt (ty := ty) (c := c) hz k hr0
    have hpe : p < ix (hEl (uIn h ty z c k)) := by
      have := hr.2.2.1
      rw [ix_eq] at hp ⊢
      omega
    unfold uIn
    rw [uIn_setP hz hp hc k hr0, uMk_setP hpe]
    have e : hTh (hSetP (uIn h ty z c k) p v) = hTh (uIn h ty z c k) := rfl
    rw [e]
    exact hSetP_comm (by omega)
theorem i_16_16 (t : Int32) : t - 16 - 16 = t - 32 := by
  rw [Int32.sub_eq_add_neg, Int32.sub_eq_add_neg, Int32.sub_eq_add_neg, Int32.add_assoc]
  rfl
theorem RO_room {h : SH} (hh : hOK h) {z : Int32} {Z : Nat} (hz : z = nI Z) (hr : RO h 1 Z) : 0 ≤ z.toInt ∧ uRoom h 1 z.toInt64 = true := by
  obtain ⟨h0, h1, h2, h3⟩ := hr
  have e : z.toInt = Z := by rw [hz]; exact nI_toInt (by omega)
  refine ⟨by omega, (uRoom_iff hh (by omega)).mpr ⟨?_, by omega⟩⟩
  rw [Int32.lt_iff_toInt_lt]
  show _ < (400 : Int)
  omega
theorem hIn_uIn {h : SH} (hI : hInv h) {t z : Int32} {mm Z : Nat} (hz : z = nI Z) (ht : tIsArr (t - 16) = true) (hm : (mm : Int) < (hTh h).toInt) (hl : ¬ hLe h mm = -1) : ∀ k : Nat, (k : Int) ≤ (hLe h mm).toInt → RO h k (k * Z) → hIn h t (nI mm) z k = uIn h (t - 16) z (ix (hSt h mm)) k
  | 0, _, _ => rfl
  | k + 1, hk, hr => by
    have hmul : (k + 1) * Z = k * Z + Z := Nat.succ_mul k Z
    have hr0 := hr.less (a' := k) (e' := k * Z) (by omega) (by omega)
    have ih := hIn_uIn hI hz ht hm hl k (by omega) hr0
    obtain ⟨i1, i2, i3⟩ := uIn_cnt (ty := t - 16) (c := ix (hSt h mm)) hz k hr0
    obtain ⟨h0, h1, h2, h3⟩ := hr
    have hinv := (hIn_inv hI ht hm hl (s := z) k (by omega)).1
    have hkeep := hIn_keep hI.1 (t := t) (m := nI mm) (s := z) k
    have h400 := hI.1.2.1
    have emm : ix (nI mm) = mm := ix_nI (by omega)
    have g4 := (el_facts hI hm hl (i := nI k) (by rw [nI_toInt (by omega)]; omega) (by rw [nI_toInt (by omega)]; omega)).2.2.2
    rw [ix_nI (k := k) (by omega)] at g4
    unfold hIn uIn
    rw [emm, (hkeep.2 mm hm).2.1, g4]
    rw [ih] at hinv ⊢
    obtain ⟨r1, r2⟩ := RO_room hinv.1 hz (show RO (uIn h (t - 16) z (ix (hSt h mm)) k) 1 Z from ⟨by omega, by omega, by omega, by omega⟩)
    rw [hMA_T hinv ht r1 r2]
    rfl
theorem hIn2_uOut {h : SH} (hI : hInv h) {t y u : Int32} {mm Y Z : Nat} (hy : y = nI Y) (hY : Y < 2 ^ 31) (hz : ¬ u = -1 → u = nI Z) (ht : tIsArr (t - 16) = true) (hu : u = -1 ∨ tIsArr (t - 16 - 16) = true) (hm : (mm : Int) < (hTh h).toInt) (hl : ¬ hLe h mm = -1) {A B : Nat} (hA : A = 1 + (bif !decide (u = -1) then Y else 0)) (hB : B = Y + (bif !decide (u = -1) then Y * Z else 0)) : ∀ i : Nat, (i : Int) ≤ (hLe h mm).toInt → RO h (i * A) (i * B) → hIn2 h t (nI mm) y u i = uOut h t y u (!decide (u = -1)) (ix (hSt h mm)) i
  | 0, _, _ => rfl
  | i + 1, hk, hr => by
    have hm1 : (i + 1) * A = i * A + A := Nat.succ_mul i A
    have hm2 : (i + 1) * B = i * B + B := Nat.succ_mul i B
    have hr0 := hr.less (a' := i * A) (e' := i * B) (by omega) (by omega)
    have ih := hIn2_uOut hI hy hY hz ht hu hm hl hA hB i (by omega) hr0
    obtain ⟨i1, i2, i3⟩ := uOut_cnt (ty := t) (c := ix (hSt h mm)) (th := !decide (u = -1)) hy (fun z => hz (fun q => by rw [decide_eq_true q] at z; cases z)) hY hA hB i hr0
    obtain ⟨h0, h1, h2, h3⟩ := hr
    have hinv := (hIn2_inv hI ht hu hm hl (s := y) i (by omega)).1
    have hkeep := hIn2_keep hI.1 (t := t) (m := nI mm) (s := y) (u := u) i
    have h400 := hI.1.2.1
    have emm : ix (nI mm) = mm := ix_nI (by omega)
    have gg := el_facts hI hm hl (i := nI i) (by rw [nI_toInt (by have := (i_rng (hLe h mm)).2; omega)]; omega) (by rw [nI_toInt (by have := (i_rng (hLe h mm)).2; omega)]; omega)
    have g4 := gg.2.2.2
    have hlt : ((ix (hSt h mm) + i : Nat) : Int) < (hEl h).toInt := by
      have := arr_facts hI hm hl
      rw [ix_eq]
      omega
    rw [ix_nI (k := i) (by have := (i_rng (hLe h mm)).2; omega)] at g4
    unfold hIn2 uOut
    rw [emm, (hkeep.2 mm hm).2.1, g4]
    rw [ih] at hinv ⊢
    generalize uOut h t y u (!decide (u = -1)) (ix (hSt h mm)) i = g at *
    have hr2 : RO g 1 Y := ⟨by omega, by omega, by omega, by omega⟩
    obtain ⟨r1, r2⟩ := RO_room hinv.1 hy hr2
    obtain ⟨j1, j2, j3⟩ := uMk_cnt (t := t - 16) hy hr2
    have hne : ¬ hTh g = -1 := fun y => by
      have : 0 ≤ (hTh g).toInt := by omega
      rw [y] at this
      exact absurd this (by decide)
    unfold hWithin
    rw [hMA_T hinv ht r1 r2]
    by_cases hu1 : u = -1
    · rw [decide_eq_true hu1]
      simp only [Bool.or_true, cond_true, Bool.not_true, cond_false]
      rfl
    · rw [decide_eq_false hu1] at hA hB ⊢
      simp only [decide_eq_false hne, Bool.or_false, cond_false, Bool.not_false, cond_true] at hA hB ⊢
      have hTn : hTh g = nI (ix (hTh g)) := by rw [ix_eq]; exact nI_toI (by omega)
      have hinv2 : hInv (uMk g (t - 16) y) := by
        have := (hInv_MA hinv (n := y) ht).1
        rw [hMA_T hinv ht r1 r2] at this
        exact this
      have eg := ix_eq (hEl g)
      have egT := ix_eq (hTh g)
      have eY : ix y = Y := by rw [hy]; exact ix_nI hY
      have hr3 : RO (uMk g (t - 16) y) Y (Y * Z) := ⟨by omega, by omega, by omega, by omega⟩
      have hnew := uMk_new (h := g) (t := t - 16) (l := y)
      have hyI : y.toInt = Y := by rw [hy]; exact nI_toInt hY
      have hin := hIn_uIn hinv2 (t := t - 16) (mm := ix (hTh g)) (hz hu1) (hu.resolve_left hu1) (by omega) (by rw [hnew.2]; exact nI_ne hy hY) Y (by rw [hnew.2]; omega) hr3
      rw [← hTn, hnew.1, i_16_16] at hin
      rw [eY, hin]
      show hSetP (uIn (uMk g (t - 16) y) (t - 32) u (ix (hEl g)) Y) (ix (hSt h mm) + i) (hTh g).toInt64 = _
      rw [uIn_setP (hz hu1) (by rw [j3]; omega) (by omega) Y hr3]
/-! whether there is room, as both reckon it -/
def uFit (h : SH) (z : Int32) (x y w : Int64) : Bool := !decide (4000 < x) && (!decide (4000 < x * y) && uRoom h (1 + (bif decide (z ≤ 1) then 0 else x) + (bif decide (z ≤ 2) then 0 else x * y)) (x + x * y + x * y * w))
theorem l_sub {a b : Int64} (h1 : -9223372036854775808 ≤ a.toInt - b.toInt) (h2 : a.toInt - b.toInt < 9223372036854775808) : (a - b).toInt = a.toInt - b.toInt := by
  rw [Int64.toInt_sub]
  exact Int.bmod_eq_of_le (by omega) (by omega)
theorem l_add {a b : Int64} (h1 : -9223372036854775808 ≤ a.toInt + b.toInt) (h2 : a.toInt + b.toInt < 9223372036854775808) : (a + b).toInt = a.toInt + b.toInt := by
  rw [Int64.toInt_add]
  exact Int.bmod_eq_of_le (by omega) (by omega)
theorem room_base {h : SH} (hh : hOK h) {X : Nat} (hX : X < 2 ^ 31) : (400 - hTh h - 1).toInt64.toInt = 400 - (hTh h).toInt - 1 ∧ (4000 - hEl h - nI X).toInt64.toInt = 4000 - (hEl h).toInt - X := by
  obtain ⟨a, b, c, e, _⟩ := hh
  have e1 : (400 : Int32).toInt = 400 := rfl
  have e2 : (4000 : Int32).toInt = 4000 := rfl
  have e3 : (1 : Int32).toInt = 1 := rfl
  have e4 : (nI X).toInt = X := nI_toInt hX
  constructor
  · rw [i64_of, i_sub (by rw [i_sub (by omega) (by omega)]; omega) (by rw [i_sub (by omega) (by omega)]; omega), i_sub (by omega) (by omega)]
    omega
  · rw [i64_of, i_sub (by rw [i_sub (by omega) (by omega)]; omega) (by rw [i_sub (by omega) (by omega)]; omega), i_sub (by omega) (by omega)]
    omega
theorem hRoom2_iff {a b : Int64} : hRoom2 a b = true ↔ 0 ≤ a.toInt ∧ 0 ≤ b.toInt := by
  unfold hRoom2
  rw [Bool.and_eq_true_iff, Bool.not_eq_true', Bool.not_eq_true', decide_eq_false_iff_not, decide_eq_false_iff_not, Int64.lt_iff_toInt_lt, Int64.lt_iff_toInt_lt]
  have e0 : (0 : Int64).toInt = 0 := rfl
  omega
theorem uRoom_N {h : SH} (hh : hOK h) {A B : Nat} (hA : A < 2 ^ 62) (hB : B < 2 ^ 62) : uRoom h (lN A) (lN B) = true ↔ RO h A B := by
  obtain ⟨a, b, c, e, _⟩ := hh
  unfold uRoom RO
  rw [Bool.and_eq_true_iff, Bool.not_eq_true', Bool.not_eq_true', decide_eq_false_iff_not, decide_eq_false_iff_not, Int64.lt_iff_toInt_lt, Int64.lt_iff_toInt_lt]
  have e0 : (400 : Int64).toInt = 400 := rfl
  have e1 : (4000 : Int64).toInt = 4000 := rfl
  have eA : (lN A).toInt = A := pk_lT (by omega)
  have eB : (lN B).toInt = B := pk_lT (by omega)
  have f1 : (hTh h).toInt64.toInt = (hTh h).toInt := i64_of _
  have f2 : (hEl h).toInt64.toInt = (hEl h).toInt := i64_of _
  rw [l_add (by omega) (by omega), l_add (by omega) (by omega)]
  omega
theorem uFit_iff {h : SH} (hh : hOK h) {z : Int32} {X Y Z : Nat} (hX : X < 2 ^ 31) (hY : Y < 2 ^ 31) (hZ : Z < 2 ^ 31) : uFit h z (lN X) (lN Y) (lN Z) = true ↔ RO h (1 + (bif decide (z ≤ 1) then 0 else X) + (bif decide (z ≤ 2) then 0 else X * Y)) (X + X * Y + X * Y * Z) := by
  unfold uFit
  have e1 : (4000 : Int64).toInt = 4000 := rfl
  have eX : (lN X).toInt = X := lN_toInt hX
  have m1 : X * Y ≤ X * Y * Z ∨ Z = 0 := by
    rcases Nat.eq_zero_or_pos Z with q | q
    · exact Or.inr q
    · exact Or.inl (Nat.le_mul_of_pos_right _ q)
  rw [Bool.and_eq_true_iff, Bool.and_eq_true_iff, Bool.not_eq_true', Bool.not_eq_true', decide_eq_false_iff_not, decide_eq_false_iff_not, Int64.lt_iff_toInt_lt, Int64.lt_iff_toInt_lt, lN_mul]
  have hbig : RO h (1 + (bif decide (z ≤ 1) then 0 else X) + (bif decide (z ≤ 2) then 0 else X * Y)) (X + X * Y + X * Y * Z) → X ≤ 4000 ∧ X * Y ≤ 4000 := by
    intro ⟨q1, q2, q3, q4⟩
    omega
  by_cases hx : X ≤ 4000
  · have m2 : X * Y ≤ 4000 * 2 ^ 31 := Nat.mul_le_mul hx (by omega)
    have eXY : (lN (X * Y)).toInt = ((X * Y : Nat) : Int) := pk_lT (by omega)
    by_cases hxy : X * Y ≤ 4000
    · have m3 : X * Y * Z ≤ 4000 * 2 ^ 31 := Nat.mul_le_mul hxy (by omega)
      have ea : (1 : Int64) + (bif decide (z ≤ 1) then 0 else lN X) + (bif decide (z ≤ 2) then 0 else lN (X * Y)) = lN (1 + (bif decide (z ≤ 1) then 0 else X) + (bif decide (z ≤ 2) then 0 else X * Y)) := by
        have l0 : (0 : Int64) = lN 0 := rfl
        have l1 : (1 : Int64) = lN 1 := rfl
        cases decide (z ≤ 1) <;> cases decide (z ≤ 2) <;> simp only [cond_true, cond_false] <;> rw [l1] <;> (try rw [l0]) <;> rw [lN_add, lN_add]
      have eb : lN X + lN (X * Y) + lN (X * Y) * lN Z = lN (X + X * Y + X * Y * Z) := by rw [lN_mul, lN_add, lN_add]
      rw [ea, eb]
      have bd : 1 + (bif decide (z ≤ 1) then 0 else X) + (bif decide (z ≤ 2) then 0 else X * Y) < 2 ^ 62 := by
        cases decide (z ≤ 1) <;> cases decide (z ≤ 2) <;> simp only [cond_true, cond_false] <;> omega
      rw [uRoom_N hh bd (by omega)]
      constructor
      · intro q; exact q.2.2
      · intro q; exact ⟨by omega, by omega, q⟩
    · constructor
      · intro q; have := q.2.1; omega
      · intro q; exact absurd (hbig q).2 hxy
  · constructor
    · intro q; have := q.1; omega
    · intro q; exact absurd (hbig q).1 hx
theorem hRoom_1 {h : SH} (hh : hOK h) {X : Nat} (hX : X < 2 ^ 31) : hRoom h (nI X) (-1) (-1) = true ↔ RO h 1 X := by
  obtain ⟨b1, b2⟩ := room_base hh hX
  obtain ⟨a, b, c, e, _⟩ := hh
  unfold hRoom hRoom1
  rw [decide_eq_true (rfl : (-1 : Int32) = -1)]
  simp only [Bool.true_or, cond_true]
  rw [hRoom2_iff]
  unfold RO
  omega
theorem hRoom_2 {h : SH} (hh : hOK h) {X Y : Nat} (hX : X < 2 ^ 31) (hY : Y < 2 ^ 31) : hRoom h (nI X) (nI Y) (-1) = true ↔ RO h (1 + X) (X + X * Y) := by
  obtain ⟨b1, b2⟩ := room_base hh hX
  obtain ⟨a, b, c, e, _⟩ := hh
  unfold hRoom hRoom1
  rw [decide_eq_false (nI_ne rfl hY), decide_eq_true (rfl : (-1 : Int32) = -1)]
  simp only [Bool.true_or, cond_true, Bool.false_or]
  have e0 : (0 : Int64).toInt = 0 := rfl
  by_cases hn : (4000 - hEl h - nI X).toInt64 < 0
  · rw [decide_eq_true hn, cond_true, hRoom2_iff]
    rw [Int64.lt_iff_toInt_lt] at hn
    unfold RO
    omega
  · rw [decide_eq_false hn, cond_false, hRoom2_iff]
    rw [Int64.lt_iff_toInt_lt] at hn
    have m2 : X * Y ≤ 4000 * 2 ^ 31 := Nat.mul_le_mul (by omega) (by omega)
    rw [nI_l hX, nI_l hY, lN_mul]
    have eX : (lN X).toInt = X := lN_toInt hX
    have eXY : (lN (X * Y)).toInt = ((X * Y : Nat) : Int) := pk_lT (by omega)
    rw [l_sub (by omega) (by omega), l_sub (by omega) (by omega)]
    unfold RO
    omega
theorem hRoom_3 {h : SH} (hh : hOK h) {X Y Z : Nat} (hX : X < 2 ^ 31) (hY : Y < 2 ^ 31) (hZ : Z < 2 ^ 31) : hRoom h (nI X) (nI Y) (nI Z) = true ↔ RO h (1 + X + X * Y) (X + X * Y + X * Y * Z) := by
  obtain ⟨b1, b2⟩ := room_base hh hX
  obtain ⟨a, b, c, e, _⟩ := hh
  unfold hRoom hRoom1
  rw [decide_eq_false (nI_ne rfl hY), decide_eq_false (nI_ne rfl hZ)]
  simp only [Bool.false_or]
  have e0 : (0 : Int64).toInt = 0 := rfl
  by_cases hn : (4000 - hEl h - nI X).toInt64 < 0
  · rw [decide_eq_true hn, cond_true, cond_true, hRoom2_iff]
    rw [Int64.lt_iff_toInt_lt] at hn
    unfold RO
    omega
  · rw [decide_eq_false hn, cond_false]
    rw [Int64.lt_iff_toInt_lt] at hn
    have m2 : X * Y ≤ 4000 * 2 ^ 31 := Nat.mul_le_mul (by omega) (by omega)
    rw [nI_l hX, nI_l hY, nI_l hZ, lN_mul]
    have eX : (lN X).toInt = X := lN_toInt hX
    have eXY : (lN (X * Y)).toInt = ((X * Y : Nat) : Int) := pk_lT (by omega)
    have s1 := l_sub (a := (400 - hTh h - 1).toInt64) (b := lN X) (by omega) (by omega)
    have s2 := l_sub (a := (4000 - hEl h - nI X).toInt64) (b := lN (X * Y)) (by omega) (by omega)
    by_cases hn2 : (4000 - hEl h - nI X).toInt64 - lN (X * Y) < 0
    · rw [decide_eq_true hn2, cond_true, hRoom2_iff]
      rw [Int64.lt_iff_toInt_lt] at hn2
      unfold RO
      omega
    · rw [decide_eq_false hn2, cond_false, hRoom2_iff]
      rw [Int64.lt_iff_toInt_lt] at hn2
      have m3 : X * Y * Z ≤ 4000 * 2 ^ 31 := Nat.mul_le_mul (by omega) (by omega)
      rw [lN_mul]
      have eXYZ : (lN (X * Y * Z)).toInt = ((X * Y * Z : Nat) : Int) := pk_lT (by omega)
      have s3 := l_sub (a := (400 - hTh h - 1).toInt64 - lN X) (b := lN (X * Y)) (by omega) (by omega)
      have s4 := l_sub (a := (4000 - hEl h - nI X).toInt64 - lN (X * Y)) (b := lN (X * Y * Z)) (by omega) (by omega)
      unfold RO
      omega
