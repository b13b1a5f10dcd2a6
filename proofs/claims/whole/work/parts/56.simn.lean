/-! the making of arrays, walked -/
set_option maxRecDepth 100000 in
set_option maxHeartbeats 1000000 in
theorem mk_in_loop {e : Nat} (he : 1 ≤ e) {P : SP} {S : SS} {m : MS} {Q : xQ} {n s f q a12 : Int32} {x a13 a15 a17 : Int64} {T I U : Int32} (hn : vp_in n 80) (h1 : SH) (Y Z c : Nat) (hY : Y < 2 ^ 31) (hU : vp_in U 400) (hU2 : U.toInt < (hTh h1).toInt) (hst : hSt h1 (ix U) = nI c) (hc : c + Y ≤ 4000) (hr : RO h1 Y (Y * Z))
    (h : Ev (Cd e) cdX8_stepMake Q 496 [(0, .ref 0), (1, .int n), (2, .int s), (3, .int f), (4, .int q), (5, .int 3), (6, .long x), (8, .long (lN Y)), (10, .long (lN Z)), (12, .int a12), (13, .long a13), (15, .long a15), (17, .long a17), (19, .int T), (20, .int I), (21, .int U), (22, .int (nI Y))] [] (wM P (uIn h1 (pa P (ix n) - 32) (nI Z) c Y, S.2) m)) : ∀ (j k : Nat), k + j = Y → Ev (Cd e) cdX8_stepMake Q 443 [(0, .ref 0), (1, .int n), (2, .int s), (3, .int f), (4, .int q), (5, .int 3), (6, .long x), (8, .long (lN Y)), (10, .long (lN Z)), (12, .int a12), (13, .long a13), (15, .long a15), (17, .long a17), (19, .int T), (20, .int I), (21, .int U), (22, .int (nI k))] [] (wM P (uIn h1 (pa P (ix n) - 32) (nI Z) c k, S.2) m)
  | 0, k, hk => by
    have hk : k = Y := by omega
    subst hk
    refine Ev.go (Cd.mono e) [496] 100 ?_
    refine And.intro (fun _ => ?_) (fun z => absurd (by rw [lc_ge, nI_l hY, lN_lt hY hY]; omega) z)
    exact h
  | j + 1, k, hk => by
    have hm : (k + 1) * Z ≤ Y * Z := Nat.mul_le_mul_right _ (by omega)
    have hm2 : (k + 1) * Z = k * Z + Z := Nat.succ_mul k Z
    have hrk := hr.less (a' := k) (e' := k * Z) (by omega) (by omega)
    obtain ⟨i1, i2, i3⟩ := uIn_cnt (ty := pa P (ix n) - 32) (c := c) (z := nI Z) rfl k hrk
    obtain ⟨h0, h1', h2, h3⟩ := hr
    have hUn : ((ix U : Nat) : Int) < (hTh h1).toInt := by
      have := (vp_in_iff.mp hU).1
      rw [ix_eq]
      omega
    have hsi : hSt (uIn h1 (pa P (ix n) - 32) (nI Z) c k) (ix U) + nI k = nI (c + k) := by rw [i3 _ hUn, hst, nI_add]
    have ep : c + k = (hSt (uIn h1 (pa P (ix n) - 32) (nI Z) c k) (ix U) + nI k).toNatClampNeg := by rw [hsi]; exact (nI_clamp (by omega)).symm
    have hZi : (nI Z).toInt = Z := nI_toInt (by omega)
    have ih := mk_in_loop (Q := Q) (P := P) (S := S) (m := m) (n := n) (s := s) (f := f) (q := q) (a12 := a12) (x := x) (a13 := a13) (a15 := a15) (a17 := a17) (T := T) (I := I) he hn h1 Y Z c hY hU hU2 hst hc ⟨h0, h1', h2, h3⟩ h j (k + 1) (by omega)
    rw [← nI_1, uIn, ep] at ih
    refine Ev.go (Cd.mono e) [443] 100 ?_
    refine And.intro (fun z => absurd (show lN k < lN Y from (lN_lt (by omega) hY).mpr (by omega)) (by rw [lc_ge, nI_l (by omega)] at z; exact z)) (fun _ => ?_)
    refine And.intro (fun z => absurd z (by decide)) (fun _ => ?_)
    refine And.intro hU ?_
    refine And.intro hn ?_
    refine m_make (S := (uIn h1 (pa P (ix n) - 32) (nI Z) c k, S.2)) (m := m) he _ _ (vp_in_iff.mpr ⟨by show 0 ≤ (hTh (uIn h1 (pa P (ix n) - 32) (nI Z) c k)).toInt; omega, by show (hTh (uIn h1 (pa P (ix n) - 32) (nI Z) c k)).toInt < 400; omega⟩) (by show 0 ≤ (hEl (uIn h1 (pa P (ix n) - 32) (nI Z) c k)).toInt; omega) (Or.inr ⟨by rw [lN_i, hZi]; omega, by rw [lN_i, hZi]; show (hEl (uIn h1 (pa P (ix n) - 32) (nI Z) c k)).toInt + _ ≤ 4000; omega⟩) ?_
    rw [lN_i]
    refine And.intro ?_ ?_
    · show vp_in (hSt (uIn h1 (pa P (ix n) - 32) (nI Z) c k) (ix U) + nI k) 4000
      rw [hsi]
      exact vp_in_nI (by omega) (by omega)
    · exact ih
set_option maxRecDepth 100000 in
set_option maxHeartbeats 1000000 in
theorem mk_out_loop {e : Nat} (he : 1 ≤ e) {P : SP} {S : SS} {m : MS} {Q : xQ} {n s f q z a12 : Int32} {a13 a15 a17 w : Int64} {T : Int32} (hn : vp_in n 80) (h1 : SH) (X Y Z c : Nat) (th : Bool) (hz : z = (bif th then 3 else 2)) (hw : th = true → w = lN Z) (hX : X < 2 ^ 31) (hY : Y < 2 ^ 31) (hT : vp_in T 400) (hT2 : T.toInt < (hTh h1).toInt) (hst : hSt h1 (ix T) = nI c) (hc : c + X ≤ 4000) {A B : Nat} (hA : A = 1 + (bif th then Y else 0)) (hB : B = Y + (bif th then Y * Z else 0)) (hr : RO h1 (X * A) (X * B)) (hdp : vp_in (mDeep m - 1) 100)
    (h : Q none (wM P (mGive (uOut h1 (pa P (ix n)) (nI Y) (nI Z) th c X, S.2) m 1 T.toInt64).1 (mGive (uOut h1 (pa P (ix n)) (nI Y) (nI Z) th c X, S.2) m 1 T.toInt64).2)) : ∀ (j i : Nat), i + j = X → ∀ ex : List (Nat × Value), (ex = [] ∨ ∃ u v : Int32, ex = [(21, .int u), (22, .int v)]) → Ev (Cd e) cdX8_stepMake Q 389 ([(0, .ref 0), (1, .int n), (2, .int s), (3, .int f), (4, .int q), (5, .int z), (6, .long (lN X)), (8, .long (lN Y)), (10, .long w), (12, .int a12), (13, .long a13), (15, .long a15), (17, .long a17), (19, .int T), (20, .int (nI i))] ++ ex) [] (wM P (uOut h1 (pa P (ix n)) (nI Y) (nI Z) th c i, S.2) m)
  | 0, i, hi, ex, hex => by
    have hi : i = X := by omega
    subst hi
    rcases hex with rfl | ⟨u, v, rfl⟩
    · refine Ev.go (Cd.mono e) [] 100 ?_
      refine And.intro (fun _ => ?_) (fun z => absurd (by rw [lc_ge, nI_l hX, lN_lt hX hX]; omega) z)
      refine m_give (S := (uOut h1 (pa P (ix n)) (nI Y) (nI Z) th c i, S.2)) (m := m) he _ _ (Or.inr rfl) hdp ?_
      exact h
    · refine Ev.go (Cd.mono e) [] 100 ?_
      refine And.intro (fun _ => ?_) (fun z => absurd (by rw [lc_ge, nI_l hX, lN_lt hX hX]; omega) z)
      refine m_give (S := (uOut h1 (pa P (ix n)) (nI Y) (nI Z) th c i, S.2)) (m := m) he _ _ (Or.inr rfl) hdp ?_
      exact h
  | j + 1, i, hi, ex, hex => by
    have hm1 : (i + 1) * A ≤ X * A := Nat.mul_le_mul_right _ (by omega)
    have hm2 : (i + 1) * A = i * A + A := Nat.succ_mul i A
    have hm3 : (i + 1) * B ≤ X * B := Nat.mul_le_mul_right _ (by omega)
    have hm4 : (i + 1) * B = i * B + B := Nat.succ_mul i B
    have hrk := hr.less (a' := i * A) (e' := i * B) (by omega) (by omega)
    obtain ⟨i1, i2, i3⟩ := uOut_cnt (ty := pa P (ix n)) (c := c) (y := nI Y) (z := nI Z) (th := th) rfl (fun _ => rfl) hY hA hB i hrk
    obtain ⟨h0, h1', h2, h3⟩ := hr
    have hTn : ((ix T : Nat) : Int) < (hTh h1).toInt := by
      have := (vp_in_iff.mp hT).1
      rw [ix_eq]
      omega
    have hsi0 : hSt (uOut h1 (pa P (ix n)) (nI Y) (nI Z) th c i) (ix T) = nI c := by rw [i3 _ hTn, hst]
    have ih := mk_out_loop (Q := Q) (P := P) (S := S) (m := m) (n := n) (s := s) (f := f) (q := q) (z := z) (a12 := a12) (a13 := a13) (a15 := a15) (a17 := a17) (w := w) (T := T) he hn h1 X Y Z c th hz hw hX hY hT hT2 hst hc hA hB ⟨h0, h1', h2, h3⟩ hdp h j (i + 1) (by omega)
    rw [← nI_1, uOut] at ih
    have hYi : (nI Y).toInt = Y := nI_toInt hY
    generalize uOut h1 (pa P (ix n)) (nI Y) (nI Z) th c i = g at *
    have hr1 : RO g 1 Y := ⟨by omega, by omega, by omega, by omega⟩
    obtain ⟨j1, j2, j3⟩ := uMk_cnt (t := pa P (ix n) - 16) (l := nI Y) rfl hr1
    have hTne : ix T ≠ ix (hTh g) := by rw [ix_eq, ix_eq]; rw [ix_eq] at hTn; omega
    have hsi : hSt (uMk g (pa P (ix n) - 16) (nI Y)) (ix T) + nI i = nI (c + i) := by rw [(uMk_st hTne).1, hsi0, nI_add]
    have ep : c + i = (hSt (uMk g (pa P (ix n) - 16) (nI Y)) (ix T) + nI i).toNatClampNeg := by rw [hsi]; exact (nI_clamp (by omega)).symm
    have hgT : vp_in (hTh g) 400 := vp_in_iff.mpr ⟨by omega, by omega⟩
    have hz1 : ¬ z ≤ 1 := by rw [hz]; cases th <;> decide
    have hcore : ∀ ex : List (Nat × Value), (ex = [] ∨ ∃ u v : Int32, ex = [(21, .int u), (22, .int v)]) → Ev (Cd e) cdX8_stepMake Q 440 ([(0, .ref 0), (1, .int n), (2, .int s), (3, .int f), (4, .int q), (5, .int z), (6, .long (lN X)), (8, .long (lN Y)), (10, .long w), (12, .int a12), (13, .long a13), (15, .long a15), (17, .long a17), (19, .int T), (20, .int (nI i)), (21, .int (hTh g))] ++ ex.drop 1) [] (wM P (hSetP (uMk g (pa P (ix n) - 16) (nI Y)) (c + i) (hTh g).toInt64, S.2) m) := by
      intro ex hex
      cases th
      · have hz2 : z ≤ 2 := by rw [hz]; decide
        have ih := ih [(21, .int (hTh g)), (22, .int 0)] (Or.inr ⟨_, _, rfl⟩)
        rcases hex with rfl | ⟨u, v, rfl⟩
        · refine Ev.go (Cd.mono e) [389] 100 ?_
          refine And.intro (fun _ => ?_) (fun _ => ?_)
          · exact ih
          · refine And.intro (fun _ => ?_) (fun z => absurd hz2 z)
            exact ih
        · refine Ev.go (Cd.mono e) [389] 100 ?_
          refine And.intro (fun _ => ?_) (fun _ => ?_)
          · exact ih
          · refine And.intro (fun _ => ?_) (fun z => absurd hz2 z)
            exact ih
      · have hz3 : z = 3 := hz
        subst hz3
        have hwZ := hw rfl
        subst hwZ
        simp only [cond_true] at hA hB ih
        rw [ix_nI hY] at ih
        have hr3 : RO (hSetP (uMk g (pa P (ix n) - 16) (nI Y)) (c + i) (hTh g).toInt64) Y (Y * Z) := by
          show RO (uMk g (pa P (ix n) - 16) (nI Y)) Y (Y * Z)
          exact ⟨by omega, by omega, by omega, by omega⟩
        have hEg : hSt (hSetP (uMk g (pa P (ix n) - 16) (nI Y)) (c + i) (hTh g).toInt64) (ix (hTh g)) = nI (ix (hEl g)) := by
          show hSt (uMk g (pa P (ix n) - 16) (nI Y)) (ix (hTh g)) = _
          rw [uMk_new.1, ix_eq]
          exact nI_toI (by omega)
        have hend : Ev (Cd e) cdX8_stepMake Q 496 [(0, .ref 0), (1, .int n), (2, .int s), (3, .int f), (4, .int q), (5, .int 3), (6, .long (lN X)), (8, .long (lN Y)), (10, .long (lN Z)), (12, .int a12), (13, .long a13), (15, .long a15), (17, .long a17), (19, .int T), (20, .int (nI i)), (21, .int (hTh g)), (22, .int (nI Y))] [] (wM P (uIn (hSetP (uMk g (pa P (ix n) - 16) (nI Y)) (c + i) (hTh g).toInt64) (pa P (ix n) - 32) (nI Z) (ix (hEl g)) Y, S.2) m) := by
          have ih := ih [(21, .int (hTh g)), (22, .int (nI Y))] (Or.inr ⟨_, _, rfl⟩)
          refine Ev.go (Cd.mono e) [389] 100 ?_
          exact ih
        have hloop := mk_in_loop (Q := Q) (P := P) (S := S) (m := m) (n := n) (s := s) (f := f) (q := q) (a12 := a12) (x := lN X) (a13 := a13) (a15 := a15) (a17 := a17) (T := T) (I := nI i) (U := hTh g) he hn (hSetP (uMk g (pa P (ix n) - 16) (nI Y)) (c + i) (hTh g).toInt64) Y Z (ix (hEl g)) hY hgT (by show (hTh g).toInt < (hTh (uMk g (pa P (ix n) - 16) (nI Y))).toInt; omega) hEg (by rw [ix_eq]; omega) hr3 hend Y 0 (Nat.zero_add _)
        rcases hex with rfl | ⟨u, v, rfl⟩
        · refine Ev.go (Cd.mono e) [443] 100 ?_
          exact hloop
        · refine Ev.go (Cd.mono e) [443] 100 ?_
          exact hloop
    have hcore := hcore ex hex
    unfold hSetP hSetAm at hcore
    rw [ep] at hcore
    rcases hex with rfl | ⟨u, v, rfl⟩
    · refine Ev.go (Cd.mono e) [440] 100 ?_
      refine And.intro (fun z => absurd (show lN i < lN X from (lN_lt (by omega) hX).mpr (by omega)) (by rw [lc_ge, nI_l (by omega)] at z; exact z)) (fun _ => ?_)
      refine And.intro (fun z => absurd z hz1) (fun _ => ?_)
      refine And.intro hn ?_
      refine m_make (S := (g, S.2)) (m := m) he _ _ hgT (by show 0 ≤ (hEl g).toInt; omega) (Or.inr ⟨by rw [lN_i, hYi]; omega, by rw [lN_i, hYi]; show (hEl g).toInt + _ ≤ 4000; omega⟩) ?_
      rw [lN_i]
      refine And.intro hT ?_
      refine And.intro ?_ ?_
      · show vp_in (hSt (uMk g (pa P (ix n) - 16) (nI Y)) (ix T) + nI i) 4000
        rw [hsi]
        exact vp_in_nI (by omega) (by omega)
      · exact hcore
    · refine Ev.go (Cd.mono e) [440] 100 ?_
      refine And.intro (fun z => absurd (show lN i < lN X from (lN_lt (by omega) hX).mpr (by omega)) (by rw [lc_ge, nI_l (by omega)] at z; exact z)) (fun _ => ?_)
      refine And.intro (fun z => absurd z hz1) (fun _ => ?_)
      refine And.intro hn ?_
      refine m_make (S := (g, S.2)) (m := m) he _ _ hgT (by show 0 ≤ (hEl g).toInt; omega) (Or.inr ⟨by rw [lN_i, hYi]; omega, by rw [lN_i, hYi]; show (hEl g).toInt + _ ≤ 4000; omega⟩) ?_
      rw [lN_i]
      refine And.intro hT ?_
      refine And.intro ?_ ?_
      · show vp_in (hSt (uMk g (pa P (ix n) - 16) (nI Y)) (ix T) + nI i) 4000
        rw [hsi]
        exact vp_in_nI (by omega) (by omega)
      · exact hcore
set_option maxRecDepth 100000 in
set_option maxHeartbeats 1000000 in
theorem mk_243 {e : Nat} (he : 1 ≤ e) {P : SP} {S : SS} {m : MS} {Q : xQ} {n s f q z : Int32} {x y w : Int64} (hF : uFit S.1 z x y w = false → Q none (wM P (sFail S 6 n) m)) (hT : uFit S.1 z x y w = true → ∀ (a12 : Int32) (a13 a15 a17 : Int64), Ev (Cd e) cdX8_stepMake Q 371 [(0, .ref 0), (1, .int n), (2, .int s), (3, .int f), (4, .int q), (5, .int z), (6, .long x), (8, .long y), (10, .long w), (12, .int a12), (13, .long a13), (15, .long a15), (17, .long a17)] [] (wM P S m)) : Ev (Cd e) cdX8_stepMake Q 243 [(0, .ref 0), (1, .int n), (2, .int s), (3, .int f), (4, .int q), (5, .int z), (6, .long x), (8, .long y), (10, .long w)] [] (wM P S m) := by
  unfold uFit at hF hT
  refine Ev.go (Cd.mono e) [259] 100 ?_
  refine And.intro (fun h1 => ?_) (fun h1 => ?_)
  · have h1 : 4000 < x := by rw [lc_gt] at h1; exact h1
    rw [decide_eq_true h1] at hF
    have hF := hF rfl
    refine Ev.go (Cd.mono e) [275] 100 ?_
    refine And.intro (fun _ => ?_) (fun z => absurd rfl z)
    refine Ev.go (Cd.mono e) [296] 100 ?_
    refine And.intro (fun _ => ?_) (fun z => absurd rfl z)
    refine Ev.go (Cd.mono e) [318] 100 ?_
    refine And.intro (fun _ => ?_) (fun z => absurd rfl z)
    refine Ev.go (Cd.mono e) [347] 100 ?_
    refine And.intro (fun _ => ?_) (fun _ => ?_)
    · refine And.intro (fun _ => ?_) (fun _ => ?_)
      · refine Ev.go (Cd.mono e) [371] 100 ?_
        refine And.intro (fun _ => ?_) (fun z => absurd rfl z)
        refine m_fail he _ _ ?_
        exact hF
      · refine Ev.go (Cd.mono e) [371] 100 ?_
        refine And.intro (fun _ => ?_) (fun z => absurd rfl z)
        refine m_fail he _ _ ?_
        exact hF
    · refine And.intro (fun _ => ?_) (fun _ => ?_)
      · refine Ev.go (Cd.mono e) [371] 100 ?_
        refine And.intro (fun _ => ?_) (fun z => absurd rfl z)
        refine m_fail he _ _ ?_
        exact hF
      · refine Ev.go (Cd.mono e) [371] 100 ?_
        refine And.intro (fun _ => ?_) (fun z => absurd rfl z)
        refine m_fail he _ _ ?_
        exact hF
  · have h1 : ¬ 4000 < x := by rw [lc_gt] at h1; exact h1
    rw [decide_eq_false h1] at hF hT
    refine Ev.go (Cd.mono e) [275] 100 ?_
    refine And.intro (fun z => absurd z ne10) (fun _ => ?_)
    refine Ev.go (Cd.mono e) [296] 100 ?_
    refine And.intro (fun z => absurd z ne10) (fun _ => ?_)
    refine And.intro (fun h2 => ?_) (fun h2 => ?_)
    · have h2 : 4000 < x * y := by rw [lc_gt] at h2; exact h2
      rw [decide_eq_true h2] at hF
      have hF := hF rfl
      refine Ev.go (Cd.mono e) [318] 100 ?_
      refine And.intro (fun _ => ?_) (fun z => absurd rfl z)
      refine Ev.go (Cd.mono e) [347] 100 ?_
      refine And.intro (fun _ => ?_) (fun _ => ?_)
      · refine And.intro (fun _ => ?_) (fun _ => ?_)
        · refine Ev.go (Cd.mono e) [371] 100 ?_
          refine And.intro (fun _ => ?_) (fun z => absurd rfl z)
          refine m_fail he _ _ ?_
          exact hF
        · refine Ev.go (Cd.mono e) [371] 100 ?_
          refine And.intro (fun _ => ?_) (fun z => absurd rfl z)
          refine m_fail he _ _ ?_
          exact hF
      · refine And.intro (fun _ => ?_) (fun _ => ?_)
        · refine Ev.go (Cd.mono e) [371] 100 ?_
          refine And.intro (fun _ => ?_) (fun z => absurd rfl z)
          refine m_fail he _ _ ?_
          exact hF
        · refine Ev.go (Cd.mono e) [371] 100 ?_
          refine And.intro (fun _ => ?_) (fun z => absurd rfl z)
          refine m_fail he _ _ ?_
          exact hF
    · have h2 : ¬ 4000 < x * y := by rw [lc_gt] at h2; exact h2
      rw [decide_eq_false h2] at hF hT
      simp only [Bool.not_false, Bool.true_and] at hF hT
      refine Ev.go (Cd.mono e) [318] 100 ?_
      refine And.intro (fun z => absurd z ne10) (fun _ => ?_)
      refine Ev.go (Cd.mono e) [347] 100 ?_
      refine And.intro (fun h3 => ?_) (fun h3 => ?_)
      · rw [decide_eq_true (show z ≤ 1 from h3), cond_true] at hF hT
        refine And.intro (fun h4 => ?_) (fun h4 => ?_)
        · rw [decide_eq_true (show z ≤ 2 from h4), cond_true] at hF hT
          refine Ev.go (Cd.mono e) [371] 100 ?_
          refine And.intro (fun z => absurd z ne10) (fun _ => ?_)
          refine m_hasRoom he _ _ ?_
          refine And.intro (fun z => ?_) (fun z => ?_)
          · rw [bI_ne0] at z
            exact hT z _ _ _ _
          · rw [bI_eq0] at z
            refine m_fail he _ _ ?_
            exact hF z
        · rw [decide_eq_false (show ¬ z ≤ 2 from h4), cond_false] at hF hT
          refine Ev.go (Cd.mono e) [371] 100 ?_
          refine And.intro (fun z => absurd z ne10) (fun _ => ?_)
          refine m_hasRoom he _ _ ?_
          refine And.intro (fun z => ?_) (fun z => ?_)
          · rw [bI_ne0] at z
            exact hT z _ _ _ _
          · rw [bI_eq0] at z
            refine m_fail he _ _ ?_
            exact hF z
      · rw [decide_eq_false (show ¬ z ≤ 1 from h3), cond_false] at hF hT
        refine And.intro (fun h4 => ?_) (fun h4 => ?_)
        · rw [decide_eq_true (show z ≤ 2 from h4), cond_true] at hF hT
          refine Ev.go (Cd.mono e) [371] 100 ?_
          refine And.intro (fun z => absurd z ne10) (fun _ => ?_)
          refine m_hasRoom he _ _ ?_
          refine And.intro (fun z => ?_) (fun z => ?_)
          · rw [bI_ne0] at z
            exact hT z _ _ _ _
          · rw [bI_eq0] at z
            refine m_fail he _ _ ?_
            exact hF z
        · rw [decide_eq_false (show ¬ z ≤ 2 from h4), cond_false] at hF hT
          refine Ev.go (Cd.mono e) [371] 100 ?_
          refine And.intro (fun z => absurd z ne10) (fun _ => ?_)
          refine m_hasRoom he _ _ ?_
          refine And.intro (fun z => ?_) (fun z => ?_)
          · rw [bI_ne0] at z
            exact hT z _ _ _ _
          · rw [bI_eq0] at z
            refine m_fail he _ _ ?_
            exact hF z
