/-! THE LAW'S START -/
def P0 : SP := (0, fun _ => 0, fun _ => 0, fun _ => 0, fun _ => 0, fun _ => 0, fun _ => 0)
def S0 : SS := ((0, 0, fun _ => 0, fun _ => 0, fun _ => 0, fun _ => 0, fun _ => 0), (fun _ => 0, fun _ => 0, fun _ => 0, fun _ => 0, fun _ => 0, 0), (0, 0, 0, -1, 0, 0, 0))
def M0 : MS := ((0, 0, fun _ => 0, fun _ => 0), (0, fun _ => 0, fun _ => 0, fun _ => 0, fun _ => 0, fun _ => 0, fun _ => 0, fun _ => 0, fun _ => 0, fun _ => 0, fun _ => 0), (fun _ => 0, fun _ => 0))
theorem LI0 : LI 1 P0 S0 M0 := by
  have hz : (0 : Int32).toInt = 0 := rfl
  refine ⟨⟨⟨by show 0 ≤ (0 : Int32).toInt; decide, by show (0 : Int32).toInt ≤ 80; decide⟩, fun n hn => ?_⟩, ⟨⟨⟨?_, ?_, ?_, ?_, fun t ht => ?_⟩, fun t ht => ?_, fun t u htu hu => ?_, fun j _ => ⟨rfl, rfl⟩, fun t ht => ?_⟩, fun j => Or.inl rfl, fun j => Or.inl rfl, Int.le_refl _, fun j => ?_, ?_⟩, ⟨fun j => rfl, fun j => rfl⟩, rfl⟩
  · have : (n : Int) < (0 : Int32).toInt := hn
    omega
  · show 0 ≤ (0 : Int32).toInt
    decide
  · show (0 : Int32).toInt ≤ 400
    decide
  · show 0 ≤ (0 : Int32).toInt
    decide
  · show (0 : Int32).toInt ≤ 4000
    decide
  · have : (t : Int) < (0 : Int32).toInt := ht
    omega
  · have : (t : Int) < (0 : Int32).toInt := ht
    omega
  · have : (u : Int) < (0 : Int32).toInt := hu
    omega
  · have : (t : Int) < (0 : Int32).toInt := ht
    omega
  · refine ⟨0, ?_, by show ((0 : Int).natAbs : Int) ≤ _; omega⟩
    show FP.Core.Whole 0 (FP.Core.val64 FP.Core.dconst0)
    rw [FP.Core.val64_dconst0]
    exact fl_mk (N := 0) (s := false) (by simp)
  · show 0 ≤ (0 : Int32).toInt
    decide
def adC0 (q : Nat) (u : Nat → Nat) : Nat → Nat
  | 0 => q
  | k + 1 => u (k + 1)
def adM0 (q : Nat) (u : Nat → Nat) : Nat → Nat
  | 0 => q
  | k + 1 => u k
theorem xNi_on : ∀ c ∈ xNi, c.onTables = true := List.forall_mem_cons.mpr ⟨rfl, List.forall_mem_cons.mpr ⟨rfl, List.forall_mem_nil _⟩⟩
theorem xNi_warm {s U : State} (hW : s.WarmedH U.vm) : ∀ c ∈ xNi, va_Nw c s → va_Nw c U := List.forall_mem_cons.mpr ⟨fun h => va_Nw.warmM hW h, List.forall_mem_cons.mpr ⟨fun h => va_Nw.warmM hW h, List.forall_mem_nil _⟩⟩
/-- what the tables know of the classes and of the arrays' classes -/
theorem x_knows {s : State} {args : Array Value} (hts : ∀ z ∈ xTs, z.before args s = true) : ∃ (D : va_G) (cT : Nat → ClassId), va_K D vwCl (x_tys cT) s := by
  obtain ⟨c2, i2, k2⟩ := u_known hts inx2 (hts (.instantiable RX2 7) (x_t1 (i := 53) rfl rfl))
  obtain ⟨c4, i4, k4⟩ := u_known hts inx4 (hts (.instantiable RX4 7) (x_t1 (i := 18) rfl rfl))
  obtain ⟨c6, i6, k6⟩ := u_known hts inx6 (hts (.instantiable RX6 15) (x_t1 (i := 85) rfl rfl))
  obtain ⟨c7, i7, k7⟩ := u_known hts inx7 (hts (.instantiable RX7 3) (x_t1 (i := 10) rfl rfl))
  obtain ⟨c8, i8, k8⟩ := u_known hts inx8 (hts (.instantiable RX8 39) (x_t3 (i := 81) rfl rfl))
  obtain ⟨a0, b0, d0, e0, f0, g0⟩ := Cond.arrayClass_spec (hts (.arrayClass .int) (x_t1 (i := 51) rfl rfl))
  obtain ⟨a1, b1, d1, e1, f1, g1⟩ := Cond.arrayClass_spec (hts (.arrayClass .long) (x_t1 (i := 82) rfl rfl))
  obtain ⟨a2, b2, d2, e2, f2, g2⟩ := Cond.arrayClass_spec (hts (.arrayClass .double) (x_t1 (i := 83) rfl rfl))
  obtain ⟨a3, b3, d3, e3, f3, g3⟩ := Cond.arrayClass_spec (hts (.arrayClass .boolean) (x_t3 (i := 204) rfl rfl))
  refine ⟨(fun k => match k with | 0 => c2 | 1 => c4 | 2 => c6 | 3 => c7 | _ => c8, fun k => match k with | 0 => i2 | 1 => i4 | 2 => i6 | 3 => i7 | _ => i8), (fun k => match k with | 0 => a0 | 1 => a1 | 2 => a2 | _ => a3), fun k q h => ?_, fun k q h => ?_⟩
  · match k, h with
    | 0, h => cases h; exact k2
    | 1, h => cases h; exact k4
    | 2, h => cases h; exact k6
    | 3, h => cases h; exact k7
    | 4, h => cases h; exact k8
    | n + 5, h => exact absurd h (by simp)
  · match k, h with
    | 0, h => cases h; exact ⟨fun n z => ⟨fun k h => (by cases h), b0, f0, d0, g0⟩, e0⟩
    | 1, h => cases h; exact ⟨fun n z => ⟨fun k h => (by cases h), b1, f1, d1, g1⟩, e1⟩
    | 2, h => cases h; exact ⟨fun n z => ⟨fun k h => (by cases h), b2, f2, d2, g2⟩, e2⟩
    | 3, h => cases h; exact ⟨fun n z => ⟨fun k h => (by cases h), b3, f3, d3, g3⟩, e3⟩
    | n + 4, h => exact absurd h (by simp [x_tys])
set_option maxHeartbeats 4000000 in
set_option maxRecDepth 100000 in
theorem whole_start {p : Program} {e : Env} {s : State} {m : MethodId} {below : List Frame} {meth : Method} {c : Code} (l : Launch) {b L : Nat} {xs : Nat → Int32} (hL : L ≤ 3072) (C0 : lw_At p s m meth c b L xs) : W p l e room_1 s m #[Value.ref b] below meth c s.heap [] 0 0 (lw_Z below #[Value.ref b] s) (entryFrame m ([Value.ref b] : List Value).toArray 4) := by
  obtain ⟨hx, hb, hr, hml, hown, htl, hX, hbl, hlocks, -⟩ := C0
  have hts : ∀ z ∈ xTs, z.before #[Value.ref b] s = true := fun z hz => htl z (List.mem_filter.mp hz).1
  have hN : ∀ c ∈ xNs, va_Nw c s := fun c hc => va_Nw.of (xNs_on c hc) (htl c (xNs_in c hc))
  have hNi : ∀ c ∈ xNi, va_Nw c s := fun c hc => va_Nw.of (xNi_on c hc) (htl c (xNi_in c hc))
  obtain ⟨D, cT, hK⟩ := x_knows hts
  have lx : LX p s m c b L xs D cT := ⟨hx, hb, hml, hown, hts, hX, hbl, hK, hN⟩
  generalize hAe : (fun q : Nat => s.heap.size ≤ q) = A
  have hA : ∀ q : Nat, s.heap.size ≤ q → A q := fun q h => by rw [← hAe]; exact h
  have hS : va_S A s.heap s.heap [] := va_S.rf
  have hP : va_P D vwCl [] s.heap := fun k q hk => by cases hk
  have hD : va_D A [] := ⟨fun i j p q hi => (by cases hi), fun k q hk => by cases hk⟩
  have hl := lv_entry ([.ref b]) (n := 4) (Nat.le_of_ble_eq_true rfl)
  rw [lg_entry_eq]
  generalize (lg_sl ([.ref b]) ++ List.replicate (4 - (lg_sl ([.ref b])).length) Slot.unset).toArray = ls at hl ⊢
  have hl : lv_has ls 4 [(0, .ref b)] := hl
  refine va_new (ci := 3) (fs := [.null, .null, .null]) (C := RX7) (T := TX7) (N := 3) hx hb hts inx7 tyX7 tyX7_ok hown (hts (.classLink R_law 7 RX7) (x_t1 (i := 9) rfl rfl)) (hts (.instantiable RX7 3) (x_t1 (i := 10) rfl rfl)) (hts (.initialized RX7) (x_t1 (i := 1) rfl rfl)) hK hP hD hS hA rfl (fun j hj => by rcases (show j = 0 ∨ j = 1 ∨ j = 2 by omega) with rfl | rfl | rfl <;> rfl) (Nat.le_of_ble_eq_true rfl) (Nat.le_of_ble_eq_true rfl) dL_law_0 (fun qC H hP hD hS => ?_)
  have hP : va_P D vwCl [(qC, .inr (3, [.null, .null, .null]))] H := hP
  have hD : va_D A [(qC, .inr (3, [.null, .null, .null]))] := hD
  refine W.widen (k := 1) (n := 3) (by decide) (by decide) ?_
  refine lv_dup hx hb dL_law_3 rfl ?_
  have hFc := va_free (wc := [(qC, .inr (3, [.null, .null, .null]))]) hD hS hA [0] rfl
  refine va_callv (va_runI (As := []) (rest := [.ref qC]) ⟨hx, hb, hml, hown, hts⟩ (c_X7_init l D cT qC H.size) (cwI 0 hts gd_X7_init rfl rfl rfl (hts (.initialized RX7) (x_t1 (i := 1) rfl rfl)) (hts (.methodLink R_law 9 yX7_init) (x_t1 (i := 11) rfl rfl)) (hts (.instanceMethod yX7_init) (x_t1 (i := 12) rfl rfl)) rfl (by decide +kernel) ⟨Nat.le_of_ble_eq_true rfl, Nat.le_of_ble_eq_true rfl⟩) ⟨fun a U g mk q => by obtain ⟨q0, q1, qP, qK, qD, qN⟩ := q; exact ⟨q0, q1, qP, va_K.moved (u := U) (U := U.calling g mk a) (Vm.Alike.refl U.vm) qK, qD, fun c hc => va_Nw.same (u := U) (xNi_on c hc) rfl (qN c hc)⟩, fun U hU hW => ⟨rfl, by rw [hU], by rw [hU]; exact hP, va_K.moved hW.alike hK, hD.weaken (fun _ _ _ _ => trivial), fun c hc => xNi_warm hW c hc (hNi c hc)⟩⟩ rfl rfl hl.1 rfl (lv_room (Nat.le_of_ble_eq_true rfl)) dL_law_4 ⟨Nat.le_of_ble_eq_true rfl, Nat.le_of_ble_eq_true rfl⟩) hS (fun q _ h => hFc q h) hFc (fun uC t H1 locs ht hvm hw hB hz1 hk1 hS => ?_)
  obtain ⟨hP1, hK1, hD1⟩ := hB
  rw [ht] at hP1
  have hD2 := hD1.weaken (fun k q _ h => hFc q.1 h)
  have hP : va_P D vwCl (x_cw (adC0 qC uC) cT (wC P0 S0)) H1 := hP1
  have hD : va_D A (x_cw (adC0 qC uC) cT (wC P0 S0)) := hD2
  clear hP1 hK1 hD1 hD2 hz1 hk1 hFc ht hvm hw
  generalize H1 = H at hP hS ⊢
  refine W.widen (k := 20) (n := 13184) (by decide) (by decide) ?_
  refine lv_astore_n (i := 1) hx hb dL_law_7 rfl hl (by decide) rfl (fun ls hl => ?_)
  have hl : lv_has ls 4 [(1, .ref qC), (0, .ref b)] := hl
  generalize hwc : x_cw (adC0 qC uC) cT (wC P0 S0) = wc at hP hD
  refine va_new (ci := 4) (fs := [.int 0, .null, .null, .null, .null, .null, .int 0, .null, .null, .null, .int 0, .null, .null, .null, .null, .int 0, .null, .null, .null, .null, .null, .null, .null, .null, .null, .null, .int 0, .null, .null, .int 0, .long 0, .int 0, .int 0, .int 0, .int 0, .int 0, .null, .null, .null]) (C := RX8) (T := TX8) (N := 39) hx hb hts inx8 tyX8 tyX8_ok hown (hts (.classLink R_law 10 RX8) (x_t3 (i := 80) rfl rfl)) (hts (.instantiable RX8 39) (x_t3 (i := 81) rfl rfl)) (hts (.initialized RX8) (x_t1 (i := 5) rfl rfl)) hK hP hD hS hA rfl (fun j hj => by rcases (show j = 0 ∨ j = 1 ∨ j = 2 ∨ j = 3 ∨ j = 4 ∨ j = 5 ∨ j = 6 ∨ j = 7 ∨ j = 8 ∨ j = 9 ∨ j = 10 ∨ j = 11 ∨ j = 12 ∨ j = 13 ∨ j = 14 ∨ j = 15 ∨ j = 16 ∨ j = 17 ∨ j = 18 ∨ j = 19 ∨ j = 20 ∨ j = 21 ∨ j = 22 ∨ j = 23 ∨ j = 24 ∨ j = 25 ∨ j = 26 ∨ j = 27 ∨ j = 28 ∨ j = 29 ∨ j = 30 ∨ j = 31 ∨ j = 32 ∨ j = 33 ∨ j = 34 ∨ j = 35 ∨ j = 36 ∨ j = 37 ∨ j = 38 by omega) with rfl | rfl | rfl | rfl | rfl | rfl | rfl | rfl | rfl | rfl | rfl | rfl | rfl | rfl | rfl | rfl | rfl | rfl | rfl | rfl | rfl | rfl | rfl | rfl | rfl | rfl | rfl | rfl | rfl | rfl | rfl | rfl | rfl | rfl | rfl | rfl | rfl | rfl | rfl <;> rfl) (Nat.le_of_ble_eq_true rfl) (Nat.le_of_ble_eq_true rfl) dL_law_8 (fun qM H hP hD hS => ?_)
  have hP : va_P D vwCl ([(qM, .inr (4, [.int 0, .null, .null, .null, .null, .null, .int 0, .null, .null, .null, .int 0, .null, .null, .null, .null, .int 0, .null, .null, .null, .null, .null, .null, .null, .null, .null, .null, .int 0, .null, .null, .int 0, .long 0, .int 0, .int 0, .int 0, .int 0, .int 0, .null, .null, .null]))] ++ wc) H := va_P.swap (a := []) (b := wc) (c := [(qM, .inr (4, [.int 0, .null, .null, .null, .null, .null, .int 0, .null, .null, .null, .int 0, .null, .null, .null, .null, .int 0, .null, .null, .null, .null, .null, .null, .null, .null, .null, .null, .int 0, .null, .null, .int 0, .long 0, .int 0, .int 0, .int 0, .int 0, .int 0, .null, .null, .null]))]) hP
  have hD : va_D A ([(qM, .inr (4, [.int 0, .null, .null, .null, .null, .null, .int 0, .null, .null, .null, .int 0, .null, .null, .null, .null, .int 0, .null, .null, .null, .null, .null, .null, .null, .null, .null, .null, .int 0, .null, .null, .int 0, .long 0, .int 0, .int 0, .int 0, .int 0, .int 0, .null, .null, .null]))] ++ wc) := va_D.swap (a := []) (b := wc) (c := [(qM, .inr (4, [.int 0, .null, .null, .null, .null, .null, .int 0, .null, .null, .null, .int 0, .null, .null, .null, .null, .int 0, .null, .null, .null, .null, .null, .null, .null, .null, .null, .null, .int 0, .null, .null, .int 0, .long 0, .int 0, .int 0, .int 0, .int 0, .int 0, .null, .null, .null]))]) hD
  refine W.widen (k := 21) (n := 13223) (by decide) (by decide) ?_
  refine lv_dup hx hb dL_law_11 rfl ?_
  have hPc := xP_l hP
  have hDc := xD_l hD
  have hFc := va_free (wc := [(qM, .inr (4, [.int 0, .null, .null, .null, .null, .null, .int 0, .null, .null, .null, .int 0, .null, .null, .null, .null, .int 0, .null, .null, .null, .null, .null, .null, .null, .null, .null, .null, .int 0, .null, .null, .int 0, .long 0, .int 0, .int 0, .int 0, .int 0, .int 0, .null, .null, .null]))]) hDc hS hA [0] rfl
  refine va_callv (va_runI (As := []) (rest := [.ref qM]) ⟨hx, hb, hml, hown, hts⟩ (c_X8_init l D cT qM H.size) (cwI 0 hts gd_X8_init rfl rfl rfl (hts (.initialized RX8) (x_t1 (i := 5) rfl rfl)) (hts (.methodLink R_law 12 yX8_init) (x_t3 (i := 82) rfl rfl)) (hts (.instanceMethod yX8_init) (x_t3 (i := 83) rfl rfl)) rfl (by decide +kernel) ⟨Nat.le_of_ble_eq_true rfl, Nat.le_of_ble_eq_true rfl⟩) ⟨fun a U g mk q => by obtain ⟨q0, q1, qP, qK, qD⟩ := q; exact ⟨q0, q1, qP, va_K.moved (u := U) (U := U.calling g mk a) (Vm.Alike.refl U.vm) qK, qD⟩, fun U hU hW => ⟨rfl, by rw [hU], by rw [hU]; exact hPc, va_K.moved hW.alike hK, hDc.weaken (fun _ _ _ _ => trivial)⟩⟩ rfl rfl hl.1 rfl (lv_room (Nat.le_of_ble_eq_true rfl)) dL_law_12 ⟨Nat.le_of_ble_eq_true rfl, Nat.le_of_ble_eq_true rfl⟩) hS (fun q _ h => hFc q h) hFc (fun uM t H1 locs ht hvm hw hB hz1 hk1 hS => ?_)
  obtain ⟨hP1, hK1, hD1⟩ := hB
  rw [ht] at hP1
  have hP1 : va_P D vwCl (x_cw (adM0 qM uM) cT (wM P0 S0 M0)) H1 := hP1
  have hD1 : va_D (va_A [(qM, .inr (4, [.int 0, .null, .null, .null, .null, .null, .int 0, .null, .null, .null, .int 0, .null, .null, .null, .null, .int 0, .null, .null, .null, .null, .null, .null, .null, .null, .null, .null, .int 0, .null, .null, .int 0, .long 0, .int 0, .int 0, .int 0, .int 0, .int 0, .null, .null, .null]))] H.size) (x_cw (adM0 qM uM) cT (wM P0 S0 M0)) := hD1
  obtain ⟨hP, hD⟩ := x_joinA hP hD hk1 hFc hP1 hD1
  rw [← hwc] at hP hD
  clear hP1 hK1 hD1 hz1 hk1 hFc ht hvm hw hPc hDc
  subst hAe
  refine W.widen (k := 60) (n := 60000) (by decide) (by decide) ?_
  refine lv_astore_n (i := 2) hx hb dL_law_15 rfl hl (by decide) rfl (fun ls hl => ?_)
  refine lv_iconst (v := 0) hx hb dL_law_16 (by decide) ?_
  refine lv_istore_n (i := 3) hx hb dL_law_17 rfl hl (by decide) rfl (fun ls hl => ?_)
  have hl : lv_has ls 4 [(3, .int 0), (2, .ref qM), (1, .ref qC), (0, .ref b)] := hl
  exact law_loop (adC := adC0 qC uC) (adM := adM0 qM uM) lx hr hlocks hL (L + 1) 0 1 P0 S0 M0 H1 locs ls (by omega) (by omega) LI0 (by omega) hP hD hS (lv_sub hl [3, 2, 1, 0] rfl)
