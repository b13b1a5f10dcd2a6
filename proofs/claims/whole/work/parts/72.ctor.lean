/-! CONSTRUCTORS, with the kit's rows -/
theorem x_arrU {s : State} {a b : ClassId} {ty : FieldType} (h1 : va_RA s a ty) (h2 : va_RA s b ty) : a = b := by
  cases ty with
  | object C =>
    obtain ⟨_, _, _, _, _, e1⟩ := h1
    obtain ⟨_, _, _, _, _, e2⟩ := h2
    exact Option.some.inj (e1.symm.trans e2)
  | _ => exact Option.some.inj (h1.symm.trans h2)
section XNEW
variable {p : Program} {l : Launch} {e : Env} {R : Room} {s : State} {m : MethodId} {args : Array Value} {below : List Frame} {meth : Method} {c : Code} {H H0 : Heap} {locs : List Loc} {cells slots pc : Nat} {Q : State → Prop} {A : Nat → Prop} {cc : ByteArray} {ls : Array Slot} {rest : List Value} {ws : va_W}
/-- an array of a class that is known -/
theorem x_newa {D : va_G} {cT : Nat → ClassId} (k : Nat) {a0 : vp_A} (hexec : p.tables.exec = Jvm.exec) (hb : c.code = cc) {atype : ArrayType} (harr : (Cond.arrayClass (newarray.typeOf atype)).before args s = true) {ty : FieldType} (hty : newarray.typeOf atype = ty) (hk : (x_tys cT)[k]? = some (cT k, ty)) (hK : va_K D vwCl (x_tys cT) s) (hP : va_P D vwCl ws H) (hD : va_D A ws) (hS : va_S A H0 H locs) (hA : ∀ q, H0.size ≤ q → A q)
    {n : Int32} {N' : Nat} (ha : ∀ cA : ClassId, vp_cell cA a0 = arrV cA N' (fun _ => defaultValue ty)) (hn : ¬ n < 0) (hN : n.toNatClampNeg = N') (hbytes : N' * componentBytes ty ≤ 536870912) (hcells : cells + 1 ≤ R.cells) (hslots : slots + N' ≤ R.slots) (hdg : decode cc pc = .ok (.newarray atype, 2))
    (kk : ∀ (q : Nat) (H1 : Heap), va_P D vwCl (ws ++ [(q, .inl (cT k, a0))]) H1 → va_D A (ws ++ [(q, .inl (cT k, a0))]) → va_S A H0 H1 locs →
      W p l e R s m args below meth c H1 locs (cells + 1) (slots + N') Q (F0 m (pc + 2) ls (.ref q :: rest))) : W p l e R s m args below meth c H locs cells slots Q (F0 m pc ls (.int n :: rest)) := by
  refine va_newa hexec hb harr hty hK hP hD hS hA ha hn hN hbytes hcells hslots hdg (fun q cA H1 hK1 hP1 hD1 hS1 => ?_)
  have e : cA = cT k := x_arrU (hK1.2 4 (cA, ty) rfl).2 (hK.2 k _ hk).2
  subst e
  exact kk q H1 hP1 hD1 hS1
end XNEW
theorem dX4_init_0 : decode cX4_init 0 = .ok (.aload_n 0, 1) := by decide +kernel
theorem dX4_init_1 : decode cX4_init 1 = .ok (.invokespecial 3, 3) := by decide +kernel
theorem dX4_init_4 : decode cX4_init 4 = .ok (.aload_n 0, 1) := by decide +kernel
theorem dX4_init_5 : decode cX4_init 5 = .ok (.bipush 80, 2) := by decide +kernel
theorem dX4_init_7 : decode cX4_init 7 = .ok (.newarray .int, 2) := by decide +kernel
theorem dX4_init_9 : decode cX4_init 9 = .ok (.putfield 9, 3) := by decide +kernel
theorem dX4_init_12 : decode cX4_init 12 = .ok (.aload_n 0, 1) := by decide +kernel
theorem dX4_init_13 : decode cX4_init 13 = .ok (.bipush 80, 2) := by decide +kernel
theorem dX4_init_15 : decode cX4_init 15 = .ok (.newarray .int, 2) := by decide +kernel
theorem dX4_init_17 : decode cX4_init 17 = .ok (.putfield 15, 3) := by decide +kernel
theorem dX4_init_20 : decode cX4_init 20 = .ok (.aload_n 0, 1) := by decide +kernel
theorem dX4_init_21 : decode cX4_init 21 = .ok (.bipush 80, 2) := by decide +kernel
theorem dX4_init_23 : decode cX4_init 23 = .ok (.newarray .int, 2) := by decide +kernel
theorem dX4_init_25 : decode cX4_init 25 = .ok (.putfield 18, 3) := by decide +kernel
theorem dX4_init_28 : decode cX4_init 28 = .ok (.aload_n 0, 1) := by decide +kernel
theorem dX4_init_29 : decode cX4_init 29 = .ok (.bipush 80, 2) := by decide +kernel
theorem dX4_init_31 : decode cX4_init 31 = .ok (.newarray .int, 2) := by decide +kernel
theorem dX4_init_33 : decode cX4_init 33 = .ok (.putfield 21, 3) := by decide +kernel
theorem dX4_init_36 : decode cX4_init 36 = .ok (.aload_n 0, 1) := by decide +kernel
theorem dX4_init_37 : decode cX4_init 37 = .ok (.bipush 80, 2) := by decide +kernel
theorem dX4_init_39 : decode cX4_init 39 = .ok (.newarray .int, 2) := by decide +kernel
theorem dX4_init_41 : decode cX4_init 41 = .ok (.putfield 24, 3) := by decide +kernel
theorem dX4_init_44 : decode cX4_init 44 = .ok (.aload_n 0, 1) := by decide +kernel
theorem dX4_init_45 : decode cX4_init 45 = .ok (.bipush 80, 2) := by decide +kernel
theorem dX4_init_47 : decode cX4_init 47 = .ok (.newarray .int, 2) := by decide +kernel
theorem dX4_init_49 : decode cX4_init 49 = .ok (.putfield 27, 3) := by decide +kernel
theorem dX4_init_52 : decode cX4_init 52 = .ok (.aload_n 0, 1) := by decide +kernel
theorem dX4_init_53 : decode cX4_init 53 = .ok (.iconst 0, 1) := by decide +kernel
theorem dX4_init_54 : decode cX4_init 54 = .ok (.putfield 30, 3) := by decide +kernel
theorem dX4_init_57 : decode cX4_init 57 = .ok (.return_, 1) := by decide +kernel
set_option maxHeartbeats 4000000 in
set_option maxRecDepth 100000 in
theorem c_X4_init (l : Launch) (D : va_G) (cT : Nat → ClassId) (h0 sz : Nat) : Met l yX4_init (Cond.code yX4_init cX4_init 1 none :: xTs) ({ frames := 1, cells := 6, slots := 480, locals := 20 }) (va_Pc [.ref h0] (fun U => U.heap.size = sz ∧ va_P D vwCl [(h0, .inr (1, [.null, .null, .null, .null, .null, .null, .int 0]))] U.heap ∧ va_K D vwCl (x_tys cT) U ∧ va_D (fun _ => True) [(h0, .inr (1, [.null, .null, .null, .null, .null, .null, .int 0]))])) (va_Qv (fun _ : Nat → Nat => True) (fun u t => va_P D vwCl [(h0, .inr (1, [.ref (u 0), .ref (u 1), .ref (u 2), .ref (u 3), .ref (u 4), .ref (u 5), .int 0])), (u 0, .inl (cT 0, 80, .inl (fun _ => 0))), (u 1, .inl (cT 0, 80, .inl (fun _ => 0))), (u 2, .inl (cT 0, 80, .inl (fun _ => 0))), (u 3, .inl (cT 0, 80, .inl (fun _ => 0))), (u 4, .inl (cT 0, 80, .inl (fun _ => 0))), (u 5, .inl (cT 0, 80, .inl (fun _ => 0)))] t.heap ∧ va_K D vwCl (x_tys cT) t ∧ va_D (va_A [(h0, .inr (1, [.null, .null, .null, .null, .null, .null, .int 0]))] sz) [(h0, .inr (1, [.ref (u 0), .ref (u 1), .ref (u 2), .ref (u 3), .ref (u 4), .ref (u 5), .int 0])), (u 0, .inl (cT 0, 80, .inl (fun _ => 0))), (u 1, .inl (cT 0, 80, .inl (fun _ => 0))), (u 2, .inl (cT 0, 80, .inl (fun _ => 0))), (u 3, .inl (cT 0, 80, .inl (fun _ => 0))), (u 4, .inl (cT 0, 80, .inl (fun _ => 0))), (u 5, .inl (cT 0, 80, .inl (fun _ => 0)))]) (va_A [(h0, .inr (1, [.null, .null, .null, .null, .null, .null, .int 0]))] sz)) 6 480 (va_A [(h0, .inr (1, [.null, .null, .null, .null, .null, .null, .int 0]))] sz) := by
  refine Met.ofW (cc := cX4_init) (maxL := 1) (ret := none) (by decide) rfl ?_
  intro p e s m args below meth c s₁ B hml hv
  obtain ⟨rfl, hsz, hP, hK, hD0⟩ := hv
  have hx := B.exec
  have hb := B.bytes
  have hr := B.returns
  have hts : ∀ z ∈ xTs, z.before _ s = true := fun z hz => atoms_spec (ws := Cond.code yX4_init cX4_init 1 none :: xTs) B.pre z (List.mem_cons_of_mem _ hz)
  have hown : s.vm.findClass RX4 = some m.cls := findClass_of_methodNamed B.named
  have hin : meth.name = "<init>" := (name_of_methodNamed B.named B.method).1
  subst hsz
  have hD := hD0.self (sz := s.heap.size)
  generalize hAe : va_A [(h0, .inr (1, [.null, .null, .null, .null, .null, .null, .int 0]))] s.heap.size = A at hD ⊢
  have hA : ∀ q : Nat, s.heap.size ≤ q → A q := fun q h => by rw [← hAe]; exact Or.inr h
  have hS : va_S A s.heap s.heap [] := va_S.rf
  have hP : va_P D vwCl [(h0, .inr (1, [.null, .null, .null, .null, .null, .null, .int 0]))] s.heap := hP
  have hl := lv_entry ([.ref h0]) (n := 1) (Nat.le_of_ble_eq_true rfl)
  rw [lg_entry_eq]
  generalize (lg_sl ([.ref h0]) ++ List.replicate (1 - (lg_sl ([.ref h0])).length) Slot.unset).toArray = ls at hl ⊢
  have hl : lv_has ls 1 [(0, .ref h0)] := hl
  refine lv_aload_n hx hb dX4_init_0 rfl (lv_at hl 0 rfl) ?_
  refine W.objInit hx hb hown (hts (.methodLink RX4 3 objectInit) (x_t1 (i := 22) rfl rfl)) (hts (.instanceMethod objectInit) (x_t1 (i := 15) rfl rfl)) (hts (.code objectInit ⟨#[0xb1]⟩ 1 none) (x_t1 (i := 16) rfl rfl)) rfl (by rw [hml]; exact hl.1) rfl dX4_init_1 (Nat.le_of_ble_eq_true rfl) (Nat.le_of_ble_eq_true rfl) ?_
  refine W.eq (g2 := F0 m 4 ls []) rfl ?_
  refine lv_aload_n hx hb dX4_init_4 rfl (lv_at hl 0 rfl) ?_
  refine lv_bipush (v := 80) hx hb dX4_init_5 (by decide) ?_
  refine x_newa (D := D) (cT := cT) 0 (a0 := (80, .inl (fun _ => 0))) (atype := .int) (ty := .int) (N' := 80) (n := 80) hx hb (hts (.arrayClass .int) (x_t1 (i := 51) rfl rfl)) rfl rfl hK hP hD hS hA (fun _ => rfl) (by decide) (by decide) (by decide) (Nat.le_of_ble_eq_true rfl) (Nat.le_of_ble_eq_true rfl) dX4_init_7 (fun q0 H hP hD hS => ?_)
  have hP : va_P D vwCl [(h0, .inr (1, [.null, .null, .null, .null, .null, .null, .int 0])), (q0, .inl (cT 0, 80, .inl (fun _ => 0)))] H := hP
  have hD : va_D A [(h0, .inr (1, [.null, .null, .null, .null, .null, .null, .int 0])), (q0, .inl (cT 0, 80, .inl (fun _ => 0)))] := hD
  refine W.widen (k := 1) (n := 80) (by decide) (by decide) ?_
  refine va_putF (D := D) (ci := 1) (v := .ref q0) (ty := tyX4 0) (C := RX4) (T := TX4) (N := 7) hx hb hts inx4 tyX4 tyX4_ok nmX4 hown hK hP hD hS 0 rfl rfl 0 (by decide) (hts (.fieldLink RX4 9 "ArrayRules$Program" "codes" "[I") (x_t1 (i := 23) rfl rfl)) (fun _ h9 => h9) rfl hin rfl (by decide +kernel) rfl rfl (Nat.le_of_ble_eq_true rfl) dX4_init_9 (fun H locs hP hD hS => ?_)
  have hP : va_P D vwCl [(h0, .inr (1, [.ref q0, .null, .null, .null, .null, .null, .int 0])), (q0, .inl (cT 0, 80, .inl (fun _ => 0)))] H := hP
  have hD : va_D A [(h0, .inr (1, [.ref q0, .null, .null, .null, .null, .null, .int 0])), (q0, .inl (cT 0, 80, .inl (fun _ => 0)))] := hD
  refine lv_aload_n hx hb dX4_init_12 rfl (lv_at hl 0 rfl) ?_
  refine lv_bipush (v := 80) hx hb dX4_init_13 (by decide) ?_
  refine x_newa (D := D) (cT := cT) 0 (a0 := (80, .inl (fun _ => 0))) (atype := .int) (ty := .int) (N' := 80) (n := 80) hx hb (hts (.arrayClass .int) (x_t1 (i := 51) rfl rfl)) rfl rfl hK hP hD hS hA (fun _ => rfl) (by decide) (by decide) (by decide) (Nat.le_of_ble_eq_true rfl) (Nat.le_of_ble_eq_true rfl) dX4_init_15 (fun q1 H hP hD hS => ?_)
  have hP : va_P D vwCl [(h0, .inr (1, [.ref q0, .null, .null, .null, .null, .null, .int 0])), (q0, .inl (cT 0, 80, .inl (fun _ => 0))), (q1, .inl (cT 0, 80, .inl (fun _ => 0)))] H := hP
  have hD : va_D A [(h0, .inr (1, [.ref q0, .null, .null, .null, .null, .null, .int 0])), (q0, .inl (cT 0, 80, .inl (fun _ => 0))), (q1, .inl (cT 0, 80, .inl (fun _ => 0)))] := hD
  refine W.widen (k := 2) (n := 160) (by decide) (by decide) ?_
  refine va_putF (D := D) (ci := 1) (v := .ref q1) (ty := tyX4 1) (C := RX4) (T := TX4) (N := 7) hx hb hts inx4 tyX4 tyX4_ok nmX4 hown hK hP hD hS 0 rfl rfl 1 (by decide) (hts (.fieldLink RX4 15 "ArrayRules$Program" "a" "[I") (x_t1 (i := 25) rfl rfl)) (fun _ h9 => h9) rfl hin rfl (by decide +kernel) rfl rfl (Nat.le_of_ble_eq_true rfl) dX4_init_17 (fun H locs hP hD hS => ?_)
  have hP : va_P D vwCl [(h0, .inr (1, [.ref q0, .ref q1, .null, .null, .null, .null, .int 0])), (q0, .inl (cT 0, 80, .inl (fun _ => 0))), (q1, .inl (cT 0, 80, .inl (fun _ => 0)))] H := hP
  have hD : va_D A [(h0, .inr (1, [.ref q0, .ref q1, .null, .null, .null, .null, .int 0])), (q0, .inl (cT 0, 80, .inl (fun _ => 0))), (q1, .inl (cT 0, 80, .inl (fun _ => 0)))] := hD
  refine lv_aload_n hx hb dX4_init_20 rfl (lv_at hl 0 rfl) ?_
  refine lv_bipush (v := 80) hx hb dX4_init_21 (by decide) ?_
  refine x_newa (D := D) (cT := cT) 0 (a0 := (80, .inl (fun _ => 0))) (atype := .int) (ty := .int) (N' := 80) (n := 80) hx hb (hts (.arrayClass .int) (x_t1 (i := 51) rfl rfl)) rfl rfl hK hP hD hS hA (fun _ => rfl) (by decide) (by decide) (by decide) (Nat.le_of_ble_eq_true rfl) (Nat.le_of_ble_eq_true rfl) dX4_init_23 (fun q2 H hP hD hS => ?_)
  have hP : va_P D vwCl [(h0, .inr (1, [.ref q0, .ref q1, .null, .null, .null, .null, .int 0])), (q0, .inl (cT 0, 80, .inl (fun _ => 0))), (q1, .inl (cT 0, 80, .inl (fun _ => 0))), (q2, .inl (cT 0, 80, .inl (fun _ => 0)))] H := hP
  have hD : va_D A [(h0, .inr (1, [.ref q0, .ref q1, .null, .null, .null, .null, .int 0])), (q0, .inl (cT 0, 80, .inl (fun _ => 0))), (q1, .inl (cT 0, 80, .inl (fun _ => 0))), (q2, .inl (cT 0, 80, .inl (fun _ => 0)))] := hD
  refine W.widen (k := 3) (n := 240) (by decide) (by decide) ?_
  refine va_putF (D := D) (ci := 1) (v := .ref q2) (ty := tyX4 2) (C := RX4) (T := TX4) (N := 7) hx hb hts inx4 tyX4 tyX4_ok nmX4 hown hK hP hD hS 0 rfl rfl 2 (by decide) (hts (.fieldLink RX4 18 "ArrayRules$Program" "b" "[I") (x_t1 (i := 27) rfl rfl)) (fun _ h9 => h9) rfl hin rfl (by decide +kernel) rfl rfl (Nat.le_of_ble_eq_true rfl) dX4_init_25 (fun H locs hP hD hS => ?_)
  have hP : va_P D vwCl [(h0, .inr (1, [.ref q0, .ref q1, .ref q2, .null, .null, .null, .int 0])), (q0, .inl (cT 0, 80, .inl (fun _ => 0))), (q1, .inl (cT 0, 80, .inl (fun _ => 0))), (q2, .inl (cT 0, 80, .inl (fun _ => 0)))] H := hP
  have hD : va_D A [(h0, .inr (1, [.ref q0, .ref q1, .ref q2, .null, .null, .null, .int 0])), (q0, .inl (cT 0, 80, .inl (fun _ => 0))), (q1, .inl (cT 0, 80, .inl (fun _ => 0))), (q2, .inl (cT 0, 80, .inl (fun _ => 0)))] := hD
  refine lv_aload_n hx hb dX4_init_28 rfl (lv_at hl 0 rfl) ?_
  refine lv_bipush (v := 80) hx hb dX4_init_29 (by decide) ?_
  refine x_newa (D := D) (cT := cT) 0 (a0 := (80, .inl (fun _ => 0))) (atype := .int) (ty := .int) (N' := 80) (n := 80) hx hb (hts (.arrayClass .int) (x_t1 (i := 51) rfl rfl)) rfl rfl hK hP hD hS hA (fun _ => rfl) (by decide) (by decide) (by decide) (Nat.le_of_ble_eq_true rfl) (Nat.le_of_ble_eq_true rfl) dX4_init_31 (fun q3 H hP hD hS => ?_)
  have hP : va_P D vwCl [(h0, .inr (1, [.ref q0, .ref q1, .ref q2, .null, .null, .null, .int 0])), (q0, .inl (cT 0, 80, .inl (fun _ => 0))), (q1, .inl (cT 0, 80, .inl (fun _ => 0))), (q2, .inl (cT 0, 80, .inl (fun _ => 0))), (q3, .inl (cT 0, 80, .inl (fun _ => 0)))] H := hP
  have hD : va_D A [(h0, .inr (1, [.ref q0, .ref q1, .ref q2, .null, .null, .null, .int 0])), (q0, .inl (cT 0, 80, .inl (fun _ => 0))), (q1, .inl (cT 0, 80, .inl (fun _ => 0))), (q2, .inl (cT 0, 80, .inl (fun _ => 0))), (q3, .inl (cT 0, 80, .inl (fun _ => 0)))] := hD
  refine W.widen (k := 4) (n := 320) (by decide) (by decide) ?_
  refine va_putF (D := D) (ci := 1) (v := .ref q3) (ty := tyX4 3) (C := RX4) (T := TX4) (N := 7) hx hb hts inx4 tyX4 tyX4_ok nmX4 hown hK hP hD hS 0 rfl rfl 3 (by decide) (hts (.fieldLink RX4 21 "ArrayRules$Program" "c" "[I") (x_t1 (i := 29) rfl rfl)) (fun _ h9 => h9) rfl hin rfl (by decide +kernel) rfl rfl (Nat.le_of_ble_eq_true rfl) dX4_init_33 (fun H locs hP hD hS => ?_)
  have hP : va_P D vwCl [(h0, .inr (1, [.ref q0, .ref q1, .ref q2, .ref q3, .null, .null, .int 0])), (q0, .inl (cT 0, 80, .inl (fun _ => 0))), (q1, .inl (cT 0, 80, .inl (fun _ => 0))), (q2, .inl (cT 0, 80, .inl (fun _ => 0))), (q3, .inl (cT 0, 80, .inl (fun _ => 0)))] H := hP
  have hD : va_D A [(h0, .inr (1, [.ref q0, .ref q1, .ref q2, .ref q3, .null, .null, .int 0])), (q0, .inl (cT 0, 80, .inl (fun _ => 0))), (q1, .inl (cT 0, 80, .inl (fun _ => 0))), (q2, .inl (cT 0, 80, .inl (fun _ => 0))), (q3, .inl (cT 0, 80, .inl (fun _ => 0)))] := hD
  refine lv_aload_n hx hb dX4_init_36 rfl (lv_at hl 0 rfl) ?_
  refine lv_bipush (v := 80) hx hb dX4_init_37 (by decide) ?_
  refine x_newa (D := D) (cT := cT) 0 (a0 := (80, .inl (fun _ => 0))) (atype := .int) (ty := .int) (N' := 80) (n := 80) hx hb (hts (.arrayClass .int) (x_t1 (i := 51) rfl rfl)) rfl rfl hK hP hD hS hA (fun _ => rfl) (by decide) (by decide) (by decide) (Nat.le_of_ble_eq_true rfl) (Nat.le_of_ble_eq_true rfl) dX4_init_39 (fun q4 H hP hD hS => ?_)
  have hP : va_P D vwCl [(h0, .inr (1, [.ref q0, .ref q1, .ref q2, .ref q3, .null, .null, .int 0])), (q0, .inl (cT 0, 80, .inl (fun _ => 0))), (q1, .inl (cT 0, 80, .inl (fun _ => 0))), (q2, .inl (cT 0, 80, .inl (fun _ => 0))), (q3, .inl (cT 0, 80, .inl (fun _ => 0))), (q4, .inl (cT 0, 80, .inl (fun _ => 0)))] H := hP
  have hD : va_D A [(h0, .inr (1, [.ref q0, .ref q1, .ref q2, .ref q3, .null, .null, .int 0])), (q0, .inl (cT 0, 80, .inl (fun _ => 0))), (q1, .inl (cT 0, 80, .inl (fun _ => 0))), (q2, .inl (cT 0, 80, .inl (fun _ => 0))), (q3, .inl (cT 0, 80, .inl (fun _ => 0))), (q4, .inl (cT 0, 80, .inl (fun _ => 0)))] := hD
  refine W.widen (k := 5) (n := 400) (by decide) (by decide) ?_
  refine va_putF (D := D) (ci := 1) (v := .ref q4) (ty := tyX4 4) (C := RX4) (T := TX4) (N := 7) hx hb hts inx4 tyX4 tyX4_ok nmX4 hown hK hP hD hS 0 rfl rfl 4 (by decide) (hts (.fieldLink RX4 24 "ArrayRules$Program" "d" "[I") (x_t1 (i := 31) rfl rfl)) (fun _ h9 => h9) rfl hin rfl (by decide +kernel) rfl rfl (Nat.le_of_ble_eq_true rfl) dX4_init_41 (fun H locs hP hD hS => ?_)
  have hP : va_P D vwCl [(h0, .inr (1, [.ref q0, .ref q1, .ref q2, .ref q3, .ref q4, .null, .int 0])), (q0, .inl (cT 0, 80, .inl (fun _ => 0))), (q1, .inl (cT 0, 80, .inl (fun _ => 0))), (q2, .inl (cT 0, 80, .inl (fun _ => 0))), (q3, .inl (cT 0, 80, .inl (fun _ => 0))), (q4, .inl (cT 0, 80, .inl (fun _ => 0)))] H := hP
  have hD : va_D A [(h0, .inr (1, [.ref q0, .ref q1, .ref q2, .ref q3, .ref q4, .null, .int 0])), (q0, .inl (cT 0, 80, .inl (fun _ => 0))), (q1, .inl (cT 0, 80, .inl (fun _ => 0))), (q2, .inl (cT 0, 80, .inl (fun _ => 0))), (q3, .inl (cT 0, 80, .inl (fun _ => 0))), (q4, .inl (cT 0, 80, .inl (fun _ => 0)))] := hD
  refine lv_aload_n hx hb dX4_init_44 rfl (lv_at hl 0 rfl) ?_
  refine lv_bipush (v := 80) hx hb dX4_init_45 (by decide) ?_
  refine x_newa (D := D) (cT := cT) 0 (a0 := (80, .inl (fun _ => 0))) (atype := .int) (ty := .int) (N' := 80) (n := 80) hx hb (hts (.arrayClass .int) (x_t1 (i := 51) rfl rfl)) rfl rfl hK hP hD hS hA (fun _ => rfl) (by decide) (by decide) (by decide) (Nat.le_of_ble_eq_true rfl) (Nat.le_of_ble_eq_true rfl) dX4_init_47 (fun q5 H hP hD hS => ?_)
  have hP : va_P D vwCl [(h0, .inr (1, [.ref q0, .ref q1, .ref q2, .ref q3, .ref q4, .null, .int 0])), (q0, .inl (cT 0, 80, .inl (fun _ => 0))), (q1, .inl (cT 0, 80, .inl (fun _ => 0))), (q2, .inl (cT 0, 80, .inl (fun _ => 0))), (q3, .inl (cT 0, 80, .inl (fun _ => 0))), (q4, .inl (cT 0, 80, .inl (fun _ => 0))), (q5, .inl (cT 0, 80, .inl (fun _ => 0)))] H := hP
  have hD : va_D A [(h0, .inr (1, [.ref q0, .ref q1, .ref q2, .ref q3, .ref q4, .null, .int 0])), (q0, .inl (cT 0, 80, .inl (fun _ => 0))), (q1, .inl (cT 0, 80, .inl (fun _ => 0))), (q2, .inl (cT 0, 80, .inl (fun _ => 0))), (q3, .inl (cT 0, 80, .inl (fun _ => 0))), (q4, .inl (cT 0, 80, .inl (fun _ => 0))), (q5, .inl (cT 0, 80, .inl (fun _ => 0)))] := hD
  refine W.widen (k := 6) (n := 480) (by decide) (by decide) ?_
  refine va_putF (D := D) (ci := 1) (v := .ref q5) (ty := tyX4 5) (C := RX4) (T := TX4) (N := 7) hx hb hts inx4 tyX4 tyX4_ok nmX4 hown hK hP hD hS 0 rfl rfl 5 (by decide) (hts (.fieldLink RX4 27 "ArrayRules$Program" "listLengths" "[I") (x_t1 (i := 33) rfl rfl)) (fun _ h9 => h9) rfl hin rfl (by decide +kernel) rfl rfl (Nat.le_of_ble_eq_true rfl) dX4_init_49 (fun H locs hP hD hS => ?_)
  have hP : va_P D vwCl [(h0, .inr (1, [.ref q0, .ref q1, .ref q2, .ref q3, .ref q4, .ref q5, .int 0])), (q0, .inl (cT 0, 80, .inl (fun _ => 0))), (q1, .inl (cT 0, 80, .inl (fun _ => 0))), (q2, .inl (cT 0, 80, .inl (fun _ => 0))), (q3, .inl (cT 0, 80, .inl (fun _ => 0))), (q4, .inl (cT 0, 80, .inl (fun _ => 0))), (q5, .inl (cT 0, 80, .inl (fun _ => 0)))] H := hP
  have hD : va_D A [(h0, .inr (1, [.ref q0, .ref q1, .ref q2, .ref q3, .ref q4, .ref q5, .int 0])), (q0, .inl (cT 0, 80, .inl (fun _ => 0))), (q1, .inl (cT 0, 80, .inl (fun _ => 0))), (q2, .inl (cT 0, 80, .inl (fun _ => 0))), (q3, .inl (cT 0, 80, .inl (fun _ => 0))), (q4, .inl (cT 0, 80, .inl (fun _ => 0))), (q5, .inl (cT 0, 80, .inl (fun _ => 0)))] := hD
  refine lv_aload_n hx hb dX4_init_52 rfl (lv_at hl 0 rfl) ?_
  refine lv_iconst (v := 0) hx hb dX4_init_53 (by decide) ?_
  refine va_put (D := D) (ci := 1) (v := .int 0) (ty := tyX4 6) (C := RX4) (T := TX4) (N := 7) hx hb hts inx4 tyX4 tyX4_ok nmX4 hown hK hP hD hS 0 rfl rfl 6 (by decide) (hts (.fieldLink RX4 30 "ArrayRules$Program" "count" "I") (x_t1 (i := 34) rfl rfl)) (fun _ h9 => h9) rfl (by decide +kernel) rfl rfl (Nat.le_of_ble_eq_true rfl) dX4_init_54 (fun H locs hP hD hS => ?_)
  have hP : va_P D vwCl [(h0, .inr (1, [.ref q0, .ref q1, .ref q2, .ref q3, .ref q4, .ref q5, .int 0])), (q0, .inl (cT 0, 80, .inl (fun _ => 0))), (q1, .inl (cT 0, 80, .inl (fun _ => 0))), (q2, .inl (cT 0, 80, .inl (fun _ => 0))), (q3, .inl (cT 0, 80, .inl (fun _ => 0))), (q4, .inl (cT 0, 80, .inl (fun _ => 0))), (q5, .inl (cT 0, 80, .inl (fun _ => 0)))] H := hP
  have hD : va_D A [(h0, .inr (1, [.ref q0, .ref q1, .ref q2, .ref q3, .ref q4, .ref q5, .int 0])), (q0, .inl (cT 0, 80, .inl (fun _ => 0))), (q1, .inl (cT 0, 80, .inl (fun _ => 0))), (q2, .inl (cT 0, 80, .inl (fun _ => 0))), (q3, .inl (cT 0, 80, .inl (fun _ => 0))), (q4, .inl (cT 0, 80, .inl (fun _ => 0))), (q5, .inl (cT 0, 80, .inl (fun _ => 0)))] := hD
  exact W.vret hx hb hr (fun t ht hW => ⟨⟨(fun k => match k with | 0 => q0 | 1 => q1 | 2 => q2 | 3 => q3 | 4 => q4 | _ => q5), rfl, trivial, by rw [ht]; exact hP, va_K.moved hW.alike hK, hD⟩, hS.F ht⟩) hS.2.2 dX4_init_57
theorem dX2_init_0 : decode cX2_init 0 = .ok (.aload_n 0, 1) := by decide +kernel
theorem dX2_init_1 : decode cX2_init 1 = .ok (.invokespecial 3, 3) := by decide +kernel
theorem dX2_init_4 : decode cX2_init 4 = .ok (.aload_n 0, 1) := by decide +kernel
theorem dX2_init_5 : decode cX2_init 5 = .ok (.sipush 400, 3) := by decide +kernel
theorem dX2_init_8 : decode cX2_init 8 = .ok (.newarray .int, 2) := by decide +kernel
theorem dX2_init_10 : decode cX2_init 10 = .ok (.putfield 9, 3) := by decide +kernel
theorem dX2_init_13 : decode cX2_init 13 = .ok (.aload_n 0, 1) := by decide +kernel
theorem dX2_init_14 : decode cX2_init 14 = .ok (.sipush 400, 3) := by decide +kernel
theorem dX2_init_17 : decode cX2_init 17 = .ok (.newarray .int, 2) := by decide +kernel
theorem dX2_init_19 : decode cX2_init 19 = .ok (.putfield 15, 3) := by decide +kernel
theorem dX2_init_22 : decode cX2_init 22 = .ok (.aload_n 0, 1) := by decide +kernel
theorem dX2_init_23 : decode cX2_init 23 = .ok (.sipush 400, 3) := by decide +kernel
theorem dX2_init_26 : decode cX2_init 26 = .ok (.newarray .int, 2) := by decide +kernel
theorem dX2_init_28 : decode cX2_init 28 = .ok (.putfield 18, 3) := by decide +kernel
theorem dX2_init_31 : decode cX2_init 31 = .ok (.aload_n 0, 1) := by decide +kernel
theorem dX2_init_32 : decode cX2_init 32 = .ok (.sipush 4000, 3) := by decide +kernel
theorem dX2_init_35 : decode cX2_init 35 = .ok (.newarray .long, 2) := by decide +kernel
theorem dX2_init_37 : decode cX2_init 37 = .ok (.putfield 21, 3) := by decide +kernel
theorem dX2_init_40 : decode cX2_init 40 = .ok (.aload_n 0, 1) := by decide +kernel
theorem dX2_init_41 : decode cX2_init 41 = .ok (.sipush 4000, 3) := by decide +kernel
theorem dX2_init_44 : decode cX2_init 44 = .ok (.newarray .double, 2) := by decide +kernel
theorem dX2_init_46 : decode cX2_init 46 = .ok (.putfield 25, 3) := by decide +kernel
theorem dX2_init_49 : decode cX2_init 49 = .ok (.aload_n 0, 1) := by decide +kernel
theorem dX2_init_50 : decode cX2_init 50 = .ok (.iconst 0, 1) := by decide +kernel
theorem dX2_init_51 : decode cX2_init 51 = .ok (.putfield 29, 3) := by decide +kernel
theorem dX2_init_54 : decode cX2_init 54 = .ok (.aload_n 0, 1) := by decide +kernel
theorem dX2_init_55 : decode cX2_init 55 = .ok (.iconst 0, 1) := by decide +kernel
theorem dX2_init_56 : decode cX2_init 56 = .ok (.putfield 33, 3) := by decide +kernel
theorem dX2_init_59 : decode cX2_init 59 = .ok (.return_, 1) := by decide +kernel
set_option maxHeartbeats 4000000 in
set_option maxRecDepth 100000 in
theorem c_X2_init (l : Launch) (D : va_G) (cT : Nat → ClassId) (h0 sz : Nat) : Met l yX2_init (Cond.code yX2_init cX2_init 1 none :: xTs) ({ frames := 1, cells := 5, slots := 9200, locals := 20 }) (va_Pc [.ref h0] (fun U => U.heap.size = sz ∧ va_P D vwCl [(h0, .inr (0, [.null, .null, .null, .null, .null, .int 0, .int 0]))] U.heap ∧ va_K D vwCl (x_tys cT) U ∧ va_D (fun _ => True) [(h0, .inr (0, [.null, .null, .null, .null, .null, .int 0, .int 0]))])) (va_Qv (fun _ : Nat → Nat => True) (fun u t => va_P D vwCl [(h0, .inr (0, [.ref (u 0), .ref (u 1), .ref (u 2), .ref (u 3), .ref (u 4), .int 0, .int 0])), (u 0, .inl (cT 0, 400, .inl (fun _ => 0))), (u 1, .inl (cT 0, 400, .inl (fun _ => 0))), (u 2, .inl (cT 0, 400, .inl (fun _ => 0))), (u 3, .inl (cT 1, 4000, .inr (.inl (fun _ => 0)))), (u 4, .inl (cT 2, 4000, .inr (.inr (.inr (.inl (fun _ => 0))))))] t.heap ∧ va_K D vwCl (x_tys cT) t ∧ va_D (va_A [(h0, .inr (0, [.null, .null, .null, .null, .null, .int 0, .int 0]))] sz) [(h0, .inr (0, [.ref (u 0), .ref (u 1), .ref (u 2), .ref (u 3), .ref (u 4), .int 0, .int 0])), (u 0, .inl (cT 0, 400, .inl (fun _ => 0))), (u 1, .inl (cT 0, 400, .inl (fun _ => 0))), (u 2, .inl (cT 0, 400, .inl (fun _ => 0))), (u 3, .inl (cT 1, 4000, .inr (.inl (fun _ => 0)))), (u 4, .inl (cT 2, 4000, .inr (.inr (.inr (.inl (fun _ => 0))))))]) (va_A [(h0, .inr (0, [.null, .null, .null, .null, .null, .int 0, .int 0]))] sz)) 5 9200 (va_A [(h0, .inr (0, [.null, .null, .null, .null, .null, .int 0, .int 0]))] sz) := by
  refine Met.ofW (cc := cX2_init) (maxL := 1) (ret := none) (by decide) rfl ?_
  intro p e s m args below meth c s₁ B hml hv
  obtain ⟨rfl, hsz, hP, hK, hD0⟩ := hv
  have hx := B.exec
  have hb := B.bytes
  have hr := B.returns
  have hts : ∀ z ∈ xTs, z.before _ s = true := fun z hz => atoms_spec (ws := Cond.code yX2_init cX2_init 1 none :: xTs) B.pre z (List.mem_cons_of_mem _ hz)
  have hown : s.vm.findClass RX2 = some m.cls := findClass_of_methodNamed B.named
  have hin : meth.name = "<init>" := (name_of_methodNamed B.named B.method).1
  subst hsz
  have hD := hD0.self (sz := s.heap.size)
  generalize hAe : va_A [(h0, .inr (0, [.null, .null, .null, .null, .null, .int 0, .int 0]))] s.heap.size = A at hD ⊢
  have hA : ∀ q : Nat, s.heap.size ≤ q → A q := fun q h => by rw [← hAe]; exact Or.inr h
  have hS : va_S A s.heap s.heap [] := va_S.rf
  have hP : va_P D vwCl [(h0, .inr (0, [.null, .null, .null, .null, .null, .int 0, .int 0]))] s.heap := hP
  have hl := lv_entry ([.ref h0]) (n := 1) (Nat.le_of_ble_eq_true rfl)
  rw [lg_entry_eq]
  generalize (lg_sl ([.ref h0]) ++ List.replicate (1 - (lg_sl ([.ref h0])).length) Slot.unset).toArray = ls at hl ⊢
  have hl : lv_has ls 1 [(0, .ref h0)] := hl
  refine lv_aload_n hx hb dX2_init_0 rfl (lv_at hl 0 rfl) ?_
  refine W.objInit hx hb hown (hts (.methodLink RX2 3 objectInit) (x_t1 (i := 57) rfl rfl)) (hts (.instanceMethod objectInit) (x_t1 (i := 15) rfl rfl)) (hts (.code objectInit ⟨#[0xb1]⟩ 1 none) (x_t1 (i := 16) rfl rfl)) rfl (by rw [hml]; exact hl.1) rfl dX2_init_1 (Nat.le_of_ble_eq_true rfl) (Nat.le_of_ble_eq_true rfl) ?_
  refine W.eq (g2 := F0 m 4 ls []) rfl ?_
  refine lv_aload_n hx hb dX2_init_4 rfl (lv_at hl 0 rfl) ?_
  refine lv_sipush (v := 400) hx hb dX2_init_5 (by decide) ?_
  refine x_newa (D := D) (cT := cT) 0 (a0 := (400, .inl (fun _ => 0))) (atype := .int) (ty := .int) (N' := 400) (n := 400) hx hb (hts (.arrayClass .int) (x_t1 (i := 51) rfl rfl)) rfl rfl hK hP hD hS hA (fun _ => rfl) (by decide) (by decide) (by decide) (Nat.le_of_ble_eq_true rfl) (Nat.le_of_ble_eq_true rfl) dX2_init_8 (fun q0 H hP hD hS => ?_)
  have hP : va_P D vwCl [(h0, .inr (0, [.null, .null, .null, .null, .null, .int 0, .int 0])), (q0, .inl (cT 0, 400, .inl (fun _ => 0)))] H := hP
  have hD : va_D A [(h0, .inr (0, [.null, .null, .null, .null, .null, .int 0, .int 0])), (q0, .inl (cT 0, 400, .inl (fun _ => 0)))] := hD
  refine W.widen (k := 1) (n := 400) (by decide) (by decide) ?_
  refine va_putF (D := D) (ci := 0) (v := .ref q0) (ty := tyX2 0) (C := RX2) (T := TX2) (N := 7) hx hb hts inx2 tyX2 tyX2_ok nmX2 hown hK hP hD hS 0 rfl rfl 0 (by decide) (hts (.fieldLink RX2 9 "ArrayRules$Heap" "types" "[I") (x_t1 (i := 58) rfl rfl)) (fun _ h9 => h9) rfl hin rfl (by decide +kernel) rfl rfl (Nat.le_of_ble_eq_true rfl) dX2_init_10 (fun H locs hP hD hS => ?_)
  have hP : va_P D vwCl [(h0, .inr (0, [.ref q0, .null, .null, .null, .null, .int 0, .int 0])), (q0, .inl (cT 0, 400, .inl (fun _ => 0)))] H := hP
  have hD : va_D A [(h0, .inr (0, [.ref q0, .null, .null, .null, .null, .int 0, .int 0])), (q0, .inl (cT 0, 400, .inl (fun _ => 0)))] := hD
  refine lv_aload_n hx hb dX2_init_13 rfl (lv_at hl 0 rfl) ?_
  refine lv_sipush (v := 400) hx hb dX2_init_14 (by decide) ?_
  refine x_newa (D := D) (cT := cT) 0 (a0 := (400, .inl (fun _ => 0))) (atype := .int) (ty := .int) (N' := 400) (n := 400) hx hb (hts (.arrayClass .int) (x_t1 (i := 51) rfl rfl)) rfl rfl hK hP hD hS hA (fun _ => rfl) (by decide) (by decide) (by decide) (Nat.le_of_ble_eq_true rfl) (Nat.le_of_ble_eq_true rfl) dX2_init_17 (fun q1 H hP hD hS => ?_)
  have hP : va_P D vwCl [(h0, .inr (0, [.ref q0, .null, .null, .null, .null, .int 0, .int 0])), (q0, .inl (cT 0, 400, .inl (fun _ => 0))), (q1, .inl (cT 0, 400, .inl (fun _ => 0)))] H := hP
  have hD : va_D A [(h0, .inr (0, [.ref q0, .null, .null, .null, .null, .int 0, .int 0])), (q0, .inl (cT 0, 400, .inl (fun _ => 0))), (q1, .inl (cT 0, 400, .inl (fun _ => 0)))] := hD
  refine W.widen (k := 2) (n := 800) (by decide) (by decide) ?_
  refine va_putF (D := D) (ci := 0) (v := .ref q1) (ty := tyX2 1) (C := RX2) (T := TX2) (N := 7) hx hb hts inx2 tyX2 tyX2_ok nmX2 hown hK hP hD hS 0 rfl rfl 1 (by decide) (hts (.fieldLink RX2 15 "ArrayRules$Heap" "starts" "[I") (x_t1 (i := 59) rfl rfl)) (fun _ h9 => h9) rfl hin rfl (by decide +kernel) rfl rfl (Nat.le_of_ble_eq_true rfl) dX2_init_19 (fun H locs hP hD hS => ?_)
  have hP : va_P D vwCl [(h0, .inr (0, [.ref q0, .ref q1, .null, .null, .null, .int 0, .int 0])), (q0, .inl (cT 0, 400, .inl (fun _ => 0))), (q1, .inl (cT 0, 400, .inl (fun _ => 0)))] H := hP
  have hD : va_D A [(h0, .inr (0, [.ref q0, .ref q1, .null, .null, .null, .int 0, .int 0])), (q0, .inl (cT 0, 400, .inl (fun _ => 0))), (q1, .inl (cT 0, 400, .inl (fun _ => 0)))] := hD
  refine lv_aload_n hx hb dX2_init_22 rfl (lv_at hl 0 rfl) ?_
  refine lv_sipush (v := 400) hx hb dX2_init_23 (by decide) ?_
  refine x_newa (D := D) (cT := cT) 0 (a0 := (400, .inl (fun _ => 0))) (atype := .int) (ty := .int) (N' := 400) (n := 400) hx hb (hts (.arrayClass .int) (x_t1 (i := 51) rfl rfl)) rfl rfl hK hP hD hS hA (fun _ => rfl) (by decide) (by decide) (by decide) (Nat.le_of_ble_eq_true rfl) (Nat.le_of_ble_eq_true rfl) dX2_init_26 (fun q2 H hP hD hS => ?_)
  have hP : va_P D vwCl [(h0, .inr (0, [.ref q0, .ref q1, .null, .null, .null, .int 0, .int 0])), (q0, .inl (cT 0, 400, .inl (fun _ => 0))), (q1, .inl (cT 0, 400, .inl (fun _ => 0))), (q2, .inl (cT 0, 400, .inl (fun _ => 0)))] H := hP
  have hD : va_D A [(h0, .inr (0, [.ref q0, .ref q1, .null, .null, .null, .int 0, .int 0])), (q0, .inl (cT 0, 400, .inl (fun _ => 0))), (q1, .inl (cT 0, 400, .inl (fun _ => 0))), (q2, .inl (cT 0, 400, .inl (fun _ => 0)))] := hD
  refine W.widen (k := 3) (n := 1200) (by decide) (by decide) ?_
  refine va_putF (D := D) (ci := 0) (v := .ref q2) (ty := tyX2 2) (C := RX2) (T := TX2) (N := 7) hx hb hts inx2 tyX2 tyX2_ok nmX2 hown hK hP hD hS 0 rfl rfl 2 (by decide) (hts (.fieldLink RX2 18 "ArrayRules$Heap" "lengths" "[I") (x_t1 (i := 60) rfl rfl)) (fun _ h9 => h9) rfl hin rfl (by decide +kernel) rfl rfl (Nat.le_of_ble_eq_true rfl) dX2_init_28 (fun H locs hP hD hS => ?_)
  have hP : va_P D vwCl [(h0, .inr (0, [.ref q0, .ref q1, .ref q2, .null, .null, .int 0, .int 0])), (q0, .inl (cT 0, 400, .inl (fun _ => 0))), (q1, .inl (cT 0, 400, .inl (fun _ => 0))), (q2, .inl (cT 0, 400, .inl (fun _ => 0)))] H := hP
  have hD : va_D A [(h0, .inr (0, [.ref q0, .ref q1, .ref q2, .null, .null, .int 0, .int 0])), (q0, .inl (cT 0, 400, .inl (fun _ => 0))), (q1, .inl (cT 0, 400, .inl (fun _ => 0))), (q2, .inl (cT 0, 400, .inl (fun _ => 0)))] := hD
  refine lv_aload_n hx hb dX2_init_31 rfl (lv_at hl 0 rfl) ?_
  refine lv_sipush (v := 4000) hx hb dX2_init_32 (by decide) ?_
  refine x_newa (D := D) (cT := cT) 1 (a0 := (4000, .inr (.inl (fun _ => 0)))) (atype := .long) (ty := .long) (N' := 4000) (n := 4000) hx hb (hts (.arrayClass .long) (x_t1 (i := 82) rfl rfl)) rfl rfl hK hP hD hS hA (fun _ => rfl) (by decide) (by decide) (by decide) (Nat.le_of_ble_eq_true rfl) (Nat.le_of_ble_eq_true rfl) dX2_init_35 (fun q3 H hP hD hS => ?_)
  have hP : va_P D vwCl [(h0, .inr (0, [.ref q0, .ref q1, .ref q2, .null, .null, .int 0, .int 0])), (q0, .inl (cT 0, 400, .inl (fun _ => 0))), (q1, .inl (cT 0, 400, .inl (fun _ => 0))), (q2, .inl (cT 0, 400, .inl (fun _ => 0))), (q3, .inl (cT 1, 4000, .inr (.inl (fun _ => 0))))] H := hP
  have hD : va_D A [(h0, .inr (0, [.ref q0, .ref q1, .ref q2, .null, .null, .int 0, .int 0])), (q0, .inl (cT 0, 400, .inl (fun _ => 0))), (q1, .inl (cT 0, 400, .inl (fun _ => 0))), (q2, .inl (cT 0, 400, .inl (fun _ => 0))), (q3, .inl (cT 1, 4000, .inr (.inl (fun _ => 0))))] := hD
  refine W.widen (k := 4) (n := 5200) (by decide) (by decide) ?_
  refine va_putF (D := D) (ci := 0) (v := .ref q3) (ty := tyX2 3) (C := RX2) (T := TX2) (N := 7) hx hb hts inx2 tyX2 tyX2_ok nmX2 hown hK hP hD hS 0 rfl rfl 3 (by decide) (hts (.fieldLink RX2 21 "ArrayRules$Heap" "amounts" "[J") (x_t1 (i := 61) rfl rfl)) (fun _ h9 => h9) rfl hin rfl (by decide +kernel) rfl rfl (Nat.le_of_ble_eq_true rfl) dX2_init_37 (fun H locs hP hD hS => ?_)
  have hP : va_P D vwCl [(h0, .inr (0, [.ref q0, .ref q1, .ref q2, .ref q3, .null, .int 0, .int 0])), (q0, .inl (cT 0, 400, .inl (fun _ => 0))), (q1, .inl (cT 0, 400, .inl (fun _ => 0))), (q2, .inl (cT 0, 400, .inl (fun _ => 0))), (q3, .inl (cT 1, 4000, .inr (.inl (fun _ => 0))))] H := hP
  have hD : va_D A [(h0, .inr (0, [.ref q0, .ref q1, .ref q2, .ref q3, .null, .int 0, .int 0])), (q0, .inl (cT 0, 400, .inl (fun _ => 0))), (q1, .inl (cT 0, 400, .inl (fun _ => 0))), (q2, .inl (cT 0, 400, .inl (fun _ => 0))), (q3, .inl (cT 1, 4000, .inr (.inl (fun _ => 0))))] := hD
  refine lv_aload_n hx hb dX2_init_40 rfl (lv_at hl 0 rfl) ?_
  refine lv_sipush (v := 4000) hx hb dX2_init_41 (by decide) ?_
  refine x_newa (D := D) (cT := cT) 2 (a0 := (4000, .inr (.inr (.inr (.inl (fun _ => 0)))))) (atype := .double) (ty := .double) (N' := 4000) (n := 4000) hx hb (hts (.arrayClass .double) (x_t1 (i := 83) rfl rfl)) rfl rfl hK hP hD hS hA (fun _ => rfl) (by decide) (by decide) (by decide) (Nat.le_of_ble_eq_true rfl) (Nat.le_of_ble_eq_true rfl) dX2_init_44 (fun q4 H hP hD hS => ?_)
  have hP : va_P D vwCl [(h0, .inr (0, [.ref q0, .ref q1, .ref q2, .ref q3, .null, .int 0, .int 0])), (q0, .inl (cT 0, 400, .inl (fun _ => 0))), (q1, .inl (cT 0, 400, .inl (fun _ => 0))), (q2, .inl (cT 0, 400, .inl (fun _ => 0))), (q3, .inl (cT 1, 4000, .inr (.inl (fun _ => 0)))), (q4, .inl (cT 2, 4000, .inr (.inr (.inr (.inl (fun _ => 0))))))] H := hP
  have hD : va_D A [(h0, .inr (0, [.ref q0, .ref q1, .ref q2, .ref q3, .null, .int 0, .int 0])), (q0, .inl (cT 0, 400, .inl (fun _ => 0))), (q1, .inl (cT 0, 400, .inl (fun _ => 0))), (q2, .inl (cT 0, 400, .inl (fun _ => 0))), (q3, .inl (cT 1, 4000, .inr (.inl (fun _ => 0)))), (q4, .inl (cT 2, 4000, .inr (.inr (.inr (.inl (fun _ => 0))))))] := hD
  refine W.widen (k := 5) (n := 9200) (by decide) (by decide) ?_
  refine va_putF (D := D) (ci := 0) (v := .ref q4) (ty := tyX2 4) (C := RX2) (T := TX2) (N := 7) hx hb hts inx2 tyX2 tyX2_ok nmX2 hown hK hP hD hS 0 rfl rfl 4 (by decide) (hts (.fieldLink RX2 25 "ArrayRules$Heap" "reals" "[D") (x_t1 (i := 62) rfl rfl)) (fun _ h9 => h9) rfl hin rfl (by decide +kernel) rfl rfl (Nat.le_of_ble_eq_true rfl) dX2_init_46 (fun H locs hP hD hS => ?_)
  have hP : va_P D vwCl [(h0, .inr (0, [.ref q0, .ref q1, .ref q2, .ref q3, .ref q4, .int 0, .int 0])), (q0, .inl (cT 0, 400, .inl (fun _ => 0))), (q1, .inl (cT 0, 400, .inl (fun _ => 0))), (q2, .inl (cT 0, 400, .inl (fun _ => 0))), (q3, .inl (cT 1, 4000, .inr (.inl (fun _ => 0)))), (q4, .inl (cT 2, 4000, .inr (.inr (.inr (.inl (fun _ => 0))))))] H := hP
  have hD : va_D A [(h0, .inr (0, [.ref q0, .ref q1, .ref q2, .ref q3, .ref q4, .int 0, .int 0])), (q0, .inl (cT 0, 400, .inl (fun _ => 0))), (q1, .inl (cT 0, 400, .inl (fun _ => 0))), (q2, .inl (cT 0, 400, .inl (fun _ => 0))), (q3, .inl (cT 1, 4000, .inr (.inl (fun _ => 0)))), (q4, .inl (cT 2, 4000, .inr (.inr (.inr (.inl (fun _ => 0))))))] := hD
  refine lv_aload_n hx hb dX2_init_49 rfl (lv_at hl 0 rfl) ?_
  refine lv_iconst (v := 0) hx hb dX2_init_50 (by decide) ?_
  refine va_put (D := D) (ci := 0) (v := .int 0) (ty := tyX2 5) (C := RX2) (T := TX2) (N := 7) hx hb hts inx2 tyX2 tyX2_ok nmX2 hown hK hP hD hS 0 rfl rfl 5 (by decide) (hts (.fieldLink RX2 29 "ArrayRules$Heap" "things" "I") (x_t1 (i := 63) rfl rfl)) (fun _ h9 => h9) rfl (by decide +kernel) rfl rfl (Nat.le_of_ble_eq_true rfl) dX2_init_51 (fun H locs hP hD hS => ?_)
  have hP : va_P D vwCl [(h0, .inr (0, [.ref q0, .ref q1, .ref q2, .ref q3, .ref q4, .int 0, .int 0])), (q0, .inl (cT 0, 400, .inl (fun _ => 0))), (q1, .inl (cT 0, 400, .inl (fun _ => 0))), (q2, .inl (cT 0, 400, .inl (fun _ => 0))), (q3, .inl (cT 1, 4000, .inr (.inl (fun _ => 0)))), (q4, .inl (cT 2, 4000, .inr (.inr (.inr (.inl (fun _ => 0))))))] H := hP
  have hD : va_D A [(h0, .inr (0, [.ref q0, .ref q1, .ref q2, .ref q3, .ref q4, .int 0, .int 0])), (q0, .inl (cT 0, 400, .inl (fun _ => 0))), (q1, .inl (cT 0, 400, .inl (fun _ => 0))), (q2, .inl (cT 0, 400, .inl (fun _ => 0))), (q3, .inl (cT 1, 4000, .inr (.inl (fun _ => 0)))), (q4, .inl (cT 2, 4000, .inr (.inr (.inr (.inl (fun _ => 0))))))] := hD
  refine lv_aload_n hx hb dX2_init_54 rfl (lv_at hl 0 rfl) ?_
  refine lv_iconst (v := 0) hx hb dX2_init_55 (by decide) ?_
  refine va_put (D := D) (ci := 0) (v := .int 0) (ty := tyX2 6) (C := RX2) (T := TX2) (N := 7) hx hb hts inx2 tyX2 tyX2_ok nmX2 hown hK hP hD hS 0 rfl rfl 6 (by decide) (hts (.fieldLink RX2 33 "ArrayRules$Heap" "elements" "I") (x_t1 (i := 65) rfl rfl)) (fun _ h9 => h9) rfl (by decide +kernel) rfl rfl (Nat.le_of_ble_eq_true rfl) dX2_init_56 (fun H locs hP hD hS => ?_)
  have hP : va_P D vwCl [(h0, .inr (0, [.ref q0, .ref q1, .ref q2, .ref q3, .ref q4, .int 0, .int 0])), (q0, .inl (cT 0, 400, .inl (fun _ => 0))), (q1, .inl (cT 0, 400, .inl (fun _ => 0))), (q2, .inl (cT 0, 400, .inl (fun _ => 0))), (q3, .inl (cT 1, 4000, .inr (.inl (fun _ => 0)))), (q4, .inl (cT 2, 4000, .inr (.inr (.inr (.inl (fun _ => 0))))))] H := hP
  have hD : va_D A [(h0, .inr (0, [.ref q0, .ref q1, .ref q2, .ref q3, .ref q4, .int 0, .int 0])), (q0, .inl (cT 0, 400, .inl (fun _ => 0))), (q1, .inl (cT 0, 400, .inl (fun _ => 0))), (q2, .inl (cT 0, 400, .inl (fun _ => 0))), (q3, .inl (cT 1, 4000, .inr (.inl (fun _ => 0)))), (q4, .inl (cT 2, 4000, .inr (.inr (.inr (.inl (fun _ => 0))))))] := hD
  exact W.vret hx hb hr (fun t ht hW => ⟨⟨(fun k => match k with | 0 => q0 | 1 => q1 | 2 => q2 | 3 => q3 | _ => q4), rfl, trivial, by rw [ht]; exact hP, va_K.moved hW.alike hK, hD⟩, hS.F ht⟩) hS.2.2 dX2_init_59
theorem dX6_init_0 : decode cX6_init 0 = .ok (.aload_n 0, 1) := by decide +kernel
theorem dX6_init_1 : decode cX6_init 1 = .ok (.invokespecial 3, 3) := by decide +kernel
theorem dX6_init_4 : decode cX6_init 4 = .ok (.aload_n 0, 1) := by decide +kernel
theorem dX6_init_5 : decode cX6_init 5 = .ok (.bipush 8, 2) := by decide +kernel
theorem dX6_init_7 : decode cX6_init 7 = .ok (.newarray .int, 2) := by decide +kernel
theorem dX6_init_9 : decode cX6_init 9 = .ok (.putfield 9, 3) := by decide +kernel
theorem dX6_init_12 : decode cX6_init 12 = .ok (.aload_n 0, 1) := by decide +kernel
theorem dX6_init_13 : decode cX6_init 13 = .ok (.bipush 8, 2) := by decide +kernel
theorem dX6_init_15 : decode cX6_init 15 = .ok (.newarray .long, 2) := by decide +kernel
theorem dX6_init_17 : decode cX6_init 17 = .ok (.putfield 15, 3) := by decide +kernel
theorem dX6_init_20 : decode cX6_init 20 = .ok (.aload_n 0, 1) := by decide +kernel
theorem dX6_init_21 : decode cX6_init 21 = .ok (.sipush 256, 3) := by decide +kernel
theorem dX6_init_24 : decode cX6_init 24 = .ok (.newarray .int, 2) := by decide +kernel
theorem dX6_init_26 : decode cX6_init 26 = .ok (.putfield 19, 3) := by decide +kernel
theorem dX6_init_29 : decode cX6_init 29 = .ok (.aload_n 0, 1) := by decide +kernel
theorem dX6_init_30 : decode cX6_init 30 = .ok (.sipush 1600, 3) := by decide +kernel
theorem dX6_init_33 : decode cX6_init 33 = .ok (.newarray .int, 2) := by decide +kernel
theorem dX6_init_35 : decode cX6_init 35 = .ok (.putfield 22, 3) := by decide +kernel
theorem dX6_init_38 : decode cX6_init 38 = .ok (.aload_n 0, 1) := by decide +kernel
theorem dX6_init_39 : decode cX6_init 39 = .ok (.sipush 1600, 3) := by decide +kernel
theorem dX6_init_42 : decode cX6_init 42 = .ok (.newarray .long, 2) := by decide +kernel
theorem dX6_init_44 : decode cX6_init 44 = .ok (.putfield 25, 3) := by decide +kernel
theorem dX6_init_47 : decode cX6_init 47 = .ok (.aload_n 0, 1) := by decide +kernel
theorem dX6_init_48 : decode cX6_init 48 = .ok (.iconst 0, 1) := by decide +kernel
theorem dX6_init_49 : decode cX6_init 49 = .ok (.putfield 28, 3) := by decide +kernel
theorem dX6_init_52 : decode cX6_init 52 = .ok (.aload_n 0, 1) := by decide +kernel
theorem dX6_init_53 : decode cX6_init 53 = .ok (.iconst 0, 1) := by decide +kernel
theorem dX6_init_54 : decode cX6_init 54 = .ok (.putfield 32, 3) := by decide +kernel
theorem dX6_init_57 : decode cX6_init 57 = .ok (.aload_n 0, 1) := by decide +kernel
theorem dX6_init_58 : decode cX6_init 58 = .ok (.lconst 0, 1) := by decide +kernel
theorem dX6_init_59 : decode cX6_init 59 = .ok (.putfield 35, 3) := by decide +kernel
theorem dX6_init_62 : decode cX6_init 62 = .ok (.aload_n 0, 1) := by decide +kernel
theorem dX6_init_63 : decode cX6_init 63 = .ok (.iconst 0, 1) := by decide +kernel
theorem dX6_init_64 : decode cX6_init 64 = .ok (.putfield 41, 3) := by decide +kernel
theorem dX6_init_67 : decode cX6_init 67 = .ok (.aload_n 0, 1) := by decide +kernel
theorem dX6_init_68 : decode cX6_init 68 = .ok (.iconst (-1), 1) := by decide +kernel
theorem dX6_init_69 : decode cX6_init 69 = .ok (.putfield 44, 3) := by decide +kernel
theorem dX6_init_72 : decode cX6_init 72 = .ok (.aload_n 0, 1) := by decide +kernel
theorem dX6_init_73 : decode cX6_init 73 = .ok (.iconst 0, 1) := by decide +kernel
theorem dX6_init_74 : decode cX6_init 74 = .ok (.putfield 47, 3) := by decide +kernel
theorem dX6_init_77 : decode cX6_init 77 = .ok (.aload_n 0, 1) := by decide +kernel
theorem dX6_init_78 : decode cX6_init 78 = .ok (.iconst 0, 1) := by decide +kernel
theorem dX6_init_79 : decode cX6_init 79 = .ok (.putfield 50, 3) := by decide +kernel
theorem dX6_init_82 : decode cX6_init 82 = .ok (.aload_n 0, 1) := by decide +kernel
theorem dX6_init_83 : decode cX6_init 83 = .ok (.iconst 0, 1) := by decide +kernel
theorem dX6_init_84 : decode cX6_init 84 = .ok (.putfield 53, 3) := by decide +kernel
theorem dX6_init_87 : decode cX6_init 87 = .ok (.aload_n 0, 1) := by decide +kernel
theorem dX6_init_88 : decode cX6_init 88 = .ok (.aload_n 1, 1) := by decide +kernel
theorem dX6_init_89 : decode cX6_init 89 = .ok (.putfield 56, 3) := by decide +kernel
theorem dX6_init_92 : decode cX6_init 92 = .ok (.aload_n 0, 1) := by decide +kernel
theorem dX6_init_93 : decode cX6_init 93 = .ok (.aload_n 2, 1) := by decide +kernel
theorem dX6_init_94 : decode cX6_init 94 = .ok (.putfield 60, 3) := by decide +kernel
theorem dX6_init_97 : decode cX6_init 97 = .ok (.return_, 1) := by decide +kernel
set_option maxHeartbeats 4000000 in
set_option maxRecDepth 100000 in
theorem c_X6_init (l : Launch) (D : va_G) (cT : Nat → ClassId) (h0 sz : Nat) (b1 : Nat) (b2 : Nat) : Met l yX6_init (Cond.code yX6_init cX6_init 3 none :: xTs) ({ frames := 1, cells := 5, slots := 3472, locals := 20 }) (va_Pc [.ref h0, .ref b1, .ref b2] (fun U => U.heap.size = sz ∧ va_P D vwCl [(h0, .inr (2, [.null, .null, .null, .null, .null, .null, .null, .int 0, .int 0, .long 0, .int 0, .int 0, .int 0, .int 0, .int 0]))] U.heap ∧ va_K D vwCl (x_tys cT) U ∧ va_D (fun _ => True) [(h0, .inr (2, [.null, .null, .null, .null, .null, .null, .null, .int 0, .int 0, .long 0, .int 0, .int 0, .int 0, .int 0, .int 0]))])) (va_Qv (fun _ : Nat → Nat => True) (fun u t => va_P D vwCl [(h0, .inr (2, [.ref b1, .ref b2, .ref (u 0), .ref (u 1), .ref (u 2), .ref (u 3), .ref (u 4), .int 0, .int 0, .long 0, .int 0, .int (-1), .int 0, .int 0, .int 0])), (u 0, .inl (cT 0, 8, .inl (fun _ => 0))), (u 1, .inl (cT 1, 8, .inr (.inl (fun _ => 0)))), (u 2, .inl (cT 0, 256, .inl (fun _ => 0))), (u 3, .inl (cT 0, 1600, .inl (fun _ => 0))), (u 4, .inl (cT 1, 1600, .inr (.inl (fun _ => 0))))] t.heap ∧ va_K D vwCl (x_tys cT) t ∧ va_D (va_A [(h0, .inr (2, [.null, .null, .null, .null, .null, .null, .null, .int 0, .int 0, .long 0, .int 0, .int 0, .int 0, .int 0, .int 0]))] sz) [(h0, .inr (2, [.ref b1, .ref b2, .ref (u 0), .ref (u 1), .ref (u 2), .ref (u 3), .ref (u 4), .int 0, .int 0, .long 0, .int 0, .int (-1), .int 0, .int 0, .int 0])), (u 0, .inl (cT 0, 8, .inl (fun _ => 0))), (u 1, .inl (cT 1, 8, .inr (.inl (fun _ => 0)))), (u 2, .inl (cT 0, 256, .inl (fun _ => 0))), (u 3, .inl (cT 0, 1600, .inl (fun _ => 0))), (u 4, .inl (cT 1, 1600, .inr (.inl (fun _ => 0))))]) (va_A [(h0, .inr (2, [.null, .null, .null, .null, .null, .null, .null, .int 0, .int 0, .long 0, .int 0, .int 0, .int 0, .int 0, .int 0]))] sz)) 5 3472 (va_A [(h0, .inr (2, [.null, .null, .null, .null, .null, .null, .null, .int 0, .int 0, .long 0, .int 0, .int 0, .int 0, .int 0, .int 0]))] sz) := by
  refine Met.ofW (cc := cX6_init) (maxL := 3) (ret := none) (by decide) rfl ?_
  intro p e s m args below meth c s₁ B hml hv
  obtain ⟨rfl, hsz, hP, hK, hD0⟩ := hv
  have hx := B.exec
  have hb := B.bytes
  have hr := B.returns
  have hts : ∀ z ∈ xTs, z.before _ s = true := fun z hz => atoms_spec (ws := Cond.code yX6_init cX6_init 3 none :: xTs) B.pre z (List.mem_cons_of_mem _ hz)
  have hown : s.vm.findClass RX6 = some m.cls := findClass_of_methodNamed B.named
  have hin : meth.name = "<init>" := (name_of_methodNamed B.named B.method).1
  subst hsz
  have hD := hD0.self (sz := s.heap.size)
  generalize hAe : va_A [(h0, .inr (2, [.null, .null, .null, .null, .null, .null, .null, .int 0, .int 0, .long 0, .int 0, .int 0, .int 0, .int 0, .int 0]))] s.heap.size = A at hD ⊢
  have hA : ∀ q : Nat, s.heap.size ≤ q → A q := fun q h => by rw [← hAe]; exact Or.inr h
  have hS : va_S A s.heap s.heap [] := va_S.rf
  have hP : va_P D vwCl [(h0, .inr (2, [.null, .null, .null, .null, .null, .null, .null, .int 0, .int 0, .long 0, .int 0, .int 0, .int 0, .int 0, .int 0]))] s.heap := hP
  have hl := lv_entry ([.ref h0, .ref b1, .ref b2]) (n := 3) (Nat.le_of_ble_eq_true rfl)
  rw [lg_entry_eq]
  generalize (lg_sl ([.ref h0, .ref b1, .ref b2]) ++ List.replicate (3 - (lg_sl ([.ref h0, .ref b1, .ref b2])).length) Slot.unset).toArray = ls at hl ⊢
  have hl : lv_has ls 3 [(0, .ref h0), (1, .ref b1), (2, .ref b2)] := hl
  refine lv_aload_n hx hb dX6_init_0 rfl (lv_at hl 0 rfl) ?_
  refine W.objInit hx hb hown (hts (.methodLink RX6 3 objectInit) (x_t1 (i := 89) rfl rfl)) (hts (.instanceMethod objectInit) (x_t1 (i := 15) rfl rfl)) (hts (.code objectInit ⟨#[0xb1]⟩ 1 none) (x_t1 (i := 16) rfl rfl)) rfl (by rw [hml]; exact hl.1) rfl dX6_init_1 (Nat.le_of_ble_eq_true rfl) (Nat.le_of_ble_eq_true rfl) ?_
  refine W.eq (g2 := F0 m 4 ls []) rfl ?_
  refine lv_aload_n hx hb dX6_init_4 rfl (lv_at hl 0 rfl) ?_
  refine lv_bipush (v := 8) hx hb dX6_init_5 (by decide) ?_
  refine x_newa (D := D) (cT := cT) 0 (a0 := (8, .inl (fun _ => 0))) (atype := .int) (ty := .int) (N' := 8) (n := 8) hx hb (hts (.arrayClass .int) (x_t1 (i := 51) rfl rfl)) rfl rfl hK hP hD hS hA (fun _ => rfl) (by decide) (by decide) (by decide) (Nat.le_of_ble_eq_true rfl) (Nat.le_of_ble_eq_true rfl) dX6_init_7 (fun q0 H hP hD hS => ?_)
  have hP : va_P D vwCl [(h0, .inr (2, [.null, .null, .null, .null, .null, .null, .null, .int 0, .int 0, .long 0, .int 0, .int 0, .int 0, .int 0, .int 0])), (q0, .inl (cT 0, 8, .inl (fun _ => 0)))] H := hP
  have hD : va_D A [(h0, .inr (2, [.null, .null, .null, .null, .null, .null, .null, .int 0, .int 0, .long 0, .int 0, .int 0, .int 0, .int 0, .int 0])), (q0, .inl (cT 0, 8, .inl (fun _ => 0)))] := hD
  refine W.widen (k := 1) (n := 8) (by decide) (by decide) ?_
  refine va_putF (D := D) (ci := 2) (v := .ref q0) (ty := tyX6 2) (C := RX6) (T := TX6) (N := 15) hx hb hts inx6 tyX6 tyX6_ok nmX6 hown hK hP hD hS 0 rfl rfl 2 (by decide) (hts (.fieldLink RX6 9 "ArrayRules$Worker" "variableKinds" "[I") (x_t1 (i := 92) rfl rfl)) (fun _ h9 => h9) rfl hin rfl (by decide +kernel) rfl rfl (Nat.le_of_ble_eq_true rfl) dX6_init_9 (fun H locs hP hD hS => ?_)
  have hP : va_P D vwCl [(h0, .inr (2, [.null, .null, .ref q0, .null, .null, .null, .null, .int 0, .int 0, .long 0, .int 0, .int 0, .int 0, .int 0, .int 0])), (q0, .inl (cT 0, 8, .inl (fun _ => 0)))] H := hP
  have hD : va_D A [(h0, .inr (2, [.null, .null, .ref q0, .null, .null, .null, .null, .int 0, .int 0, .long 0, .int 0, .int 0, .int 0, .int 0, .int 0])), (q0, .inl (cT 0, 8, .inl (fun _ => 0)))] := hD
  refine lv_aload_n hx hb dX6_init_12 rfl (lv_at hl 0 rfl) ?_
  refine lv_bipush (v := 8) hx hb dX6_init_13 (by decide) ?_
  refine x_newa (D := D) (cT := cT) 1 (a0 := (8, .inr (.inl (fun _ => 0)))) (atype := .long) (ty := .long) (N' := 8) (n := 8) hx hb (hts (.arrayClass .long) (x_t1 (i := 82) rfl rfl)) rfl rfl hK hP hD hS hA (fun _ => rfl) (by decide) (by decide) (by decide) (Nat.le_of_ble_eq_true rfl) (Nat.le_of_ble_eq_true rfl) dX6_init_15 (fun q1 H hP hD hS => ?_)
  have hP : va_P D vwCl [(h0, .inr (2, [.null, .null, .ref q0, .null, .null, .null, .null, .int 0, .int 0, .long 0, .int 0, .int 0, .int 0, .int 0, .int 0])), (q0, .inl (cT 0, 8, .inl (fun _ => 0))), (q1, .inl (cT 1, 8, .inr (.inl (fun _ => 0))))] H := hP
  have hD : va_D A [(h0, .inr (2, [.null, .null, .ref q0, .null, .null, .null, .null, .int 0, .int 0, .long 0, .int 0, .int 0, .int 0, .int 0, .int 0])), (q0, .inl (cT 0, 8, .inl (fun _ => 0))), (q1, .inl (cT 1, 8, .inr (.inl (fun _ => 0))))] := hD
  refine W.widen (k := 2) (n := 16) (by decide) (by decide) ?_
  refine va_putF (D := D) (ci := 2) (v := .ref q1) (ty := tyX6 3) (C := RX6) (T := TX6) (N := 15) hx hb hts inx6 tyX6 tyX6_ok nmX6 hown hK hP hD hS 0 rfl rfl 3 (by decide) (hts (.fieldLink RX6 15 "ArrayRules$Worker" "variableAmounts" "[J") (x_t1 (i := 94) rfl rfl)) (fun _ h9 => h9) rfl hin rfl (by decide +kernel) rfl rfl (Nat.le_of_ble_eq_true rfl) dX6_init_17 (fun H locs hP hD hS => ?_)
  have hP : va_P D vwCl [(h0, .inr (2, [.null, .null, .ref q0, .ref q1, .null, .null, .null, .int 0, .int 0, .long 0, .int 0, .int 0, .int 0, .int 0, .int 0])), (q0, .inl (cT 0, 8, .inl (fun _ => 0))), (q1, .inl (cT 1, 8, .inr (.inl (fun _ => 0))))] H := hP
  have hD : va_D A [(h0, .inr (2, [.null, .null, .ref q0, .ref q1, .null, .null, .null, .int 0, .int 0, .long 0, .int 0, .int 0, .int 0, .int 0, .int 0])), (q0, .inl (cT 0, 8, .inl (fun _ => 0))), (q1, .inl (cT 1, 8, .inr (.inl (fun _ => 0))))] := hD
  refine lv_aload_n hx hb dX6_init_20 rfl (lv_at hl 0 rfl) ?_
  refine lv_sipush (v := 256) hx hb dX6_init_21 (by decide) ?_
  refine x_newa (D := D) (cT := cT) 0 (a0 := (256, .inl (fun _ => 0))) (atype := .int) (ty := .int) (N' := 256) (n := 256) hx hb (hts (.arrayClass .int) (x_t1 (i := 51) rfl rfl)) rfl rfl hK hP hD hS hA (fun _ => rfl) (by decide) (by decide) (by decide) (Nat.le_of_ble_eq_true rfl) (Nat.le_of_ble_eq_true rfl) dX6_init_24 (fun q2 H hP hD hS => ?_)
  have hP : va_P D vwCl [(h0, .inr (2, [.null, .null, .ref q0, .ref q1, .null, .null, .null, .int 0, .int 0, .long 0, .int 0, .int 0, .int 0, .int 0, .int 0])), (q0, .inl (cT 0, 8, .inl (fun _ => 0))), (q1, .inl (cT 1, 8, .inr (.inl (fun _ => 0)))), (q2, .inl (cT 0, 256, .inl (fun _ => 0)))] H := hP
  have hD : va_D A [(h0, .inr (2, [.null, .null, .ref q0, .ref q1, .null, .null, .null, .int 0, .int 0, .long 0, .int 0, .int 0, .int 0, .int 0, .int 0])), (q0, .inl (cT 0, 8, .inl (fun _ => 0))), (q1, .inl (cT 1, 8, .inr (.inl (fun _ => 0)))), (q2, .inl (cT 0, 256, .inl (fun _ => 0)))] := hD
  refine W.widen (k := 3) (n := 272) (by decide) (by decide) ?_
  refine va_putF (D := D) (ci := 2) (v := .ref q2) (ty := tyX6 4) (C := RX6) (T := TX6) (N := 15) hx hb hts inx6 tyX6 tyX6_ok nmX6 hown hK hP hD hS 0 rfl rfl 4 (by decide) (hts (.fieldLink RX6 19 "ArrayRules$Worker" "trace" "[I") (x_t1 (i := 96) rfl rfl)) (fun _ h9 => h9) rfl hin rfl (by decide +kernel) rfl rfl (Nat.le_of_ble_eq_true rfl) dX6_init_26 (fun H locs hP hD hS => ?_)
  have hP : va_P D vwCl [(h0, .inr (2, [.null, .null, .ref q0, .ref q1, .ref q2, .null, .null, .int 0, .int 0, .long 0, .int 0, .int 0, .int 0, .int 0, .int 0])), (q0, .inl (cT 0, 8, .inl (fun _ => 0))), (q1, .inl (cT 1, 8, .inr (.inl (fun _ => 0)))), (q2, .inl (cT 0, 256, .inl (fun _ => 0)))] H := hP
  have hD : va_D A [(h0, .inr (2, [.null, .null, .ref q0, .ref q1, .ref q2, .null, .null, .int 0, .int 0, .long 0, .int 0, .int 0, .int 0, .int 0, .int 0])), (q0, .inl (cT 0, 8, .inl (fun _ => 0))), (q1, .inl (cT 1, 8, .inr (.inl (fun _ => 0)))), (q2, .inl (cT 0, 256, .inl (fun _ => 0)))] := hD
  refine lv_aload_n hx hb dX6_init_29 rfl (lv_at hl 0 rfl) ?_
  refine lv_sipush (v := 1600) hx hb dX6_init_30 (by decide) ?_
  refine x_newa (D := D) (cT := cT) 0 (a0 := (1600, .inl (fun _ => 0))) (atype := .int) (ty := .int) (N' := 1600) (n := 1600) hx hb (hts (.arrayClass .int) (x_t1 (i := 51) rfl rfl)) rfl rfl hK hP hD hS hA (fun _ => rfl) (by decide) (by decide) (by decide) (Nat.le_of_ble_eq_true rfl) (Nat.le_of_ble_eq_true rfl) dX6_init_33 (fun q3 H hP hD hS => ?_)
  have hP : va_P D vwCl [(h0, .inr (2, [.null, .null, .ref q0, .ref q1, .ref q2, .null, .null, .int 0, .int 0, .long 0, .int 0, .int 0, .int 0, .int 0, .int 0])), (q0, .inl (cT 0, 8, .inl (fun _ => 0))), (q1, .inl (cT 1, 8, .inr (.inl (fun _ => 0)))), (q2, .inl (cT 0, 256, .inl (fun _ => 0))), (q3, .inl (cT 0, 1600, .inl (fun _ => 0)))] H := hP
  have hD : va_D A [(h0, .inr (2, [.null, .null, .ref q0, .ref q1, .ref q2, .null, .null, .int 0, .int 0, .long 0, .int 0, .int 0, .int 0, .int 0, .int 0])), (q0, .inl (cT 0, 8, .inl (fun _ => 0))), (q1, .inl (cT 1, 8, .inr (.inl (fun _ => 0)))), (q2, .inl (cT 0, 256, .inl (fun _ => 0))), (q3, .inl (cT 0, 1600, .inl (fun _ => 0)))] := hD
  refine W.widen (k := 4) (n := 1872) (by decide) (by decide) ?_
  refine va_putF (D := D) (ci := 2) (v := .ref q3) (ty := tyX6 5) (C := RX6) (T := TX6) (N := 15) hx hb hts inx6 tyX6 tyX6_ok nmX6 hown hK hP hD hS 0 rfl rfl 5 (by decide) (hts (.fieldLink RX6 22 "ArrayRules$Worker" "heldKinds" "[I") (x_t1 (i := 97) rfl rfl)) (fun _ h9 => h9) rfl hin rfl (by decide +kernel) rfl rfl (Nat.le_of_ble_eq_true rfl) dX6_init_35 (fun H locs hP hD hS => ?_)
  have hP : va_P D vwCl [(h0, .inr (2, [.null, .null, .ref q0, .ref q1, .ref q2, .ref q3, .null, .int 0, .int 0, .long 0, .int 0, .int 0, .int 0, .int 0, .int 0])), (q0, .inl (cT 0, 8, .inl (fun _ => 0))), (q1, .inl (cT 1, 8, .inr (.inl (fun _ => 0)))), (q2, .inl (cT 0, 256, .inl (fun _ => 0))), (q3, .inl (cT 0, 1600, .inl (fun _ => 0)))] H := hP
  have hD : va_D A [(h0, .inr (2, [.null, .null, .ref q0, .ref q1, .ref q2, .ref q3, .null, .int 0, .int 0, .long 0, .int 0, .int 0, .int 0, .int 0, .int 0])), (q0, .inl (cT 0, 8, .inl (fun _ => 0))), (q1, .inl (cT 1, 8, .inr (.inl (fun _ => 0)))), (q2, .inl (cT 0, 256, .inl (fun _ => 0))), (q3, .inl (cT 0, 1600, .inl (fun _ => 0)))] := hD
  refine lv_aload_n hx hb dX6_init_38 rfl (lv_at hl 0 rfl) ?_
  refine lv_sipush (v := 1600) hx hb dX6_init_39 (by decide) ?_
  refine x_newa (D := D) (cT := cT) 1 (a0 := (1600, .inr (.inl (fun _ => 0)))) (atype := .long) (ty := .long) (N' := 1600) (n := 1600) hx hb (hts (.arrayClass .long) (x_t1 (i := 82) rfl rfl)) rfl rfl hK hP hD hS hA (fun _ => rfl) (by decide) (by decide) (by decide) (Nat.le_of_ble_eq_true rfl) (Nat.le_of_ble_eq_true rfl) dX6_init_42 (fun q4 H hP hD hS => ?_)
  have hP : va_P D vwCl [(h0, .inr (2, [.null, .null, .ref q0, .ref q1, .ref q2, .ref q3, .null, .int 0, .int 0, .long 0, .int 0, .int 0, .int 0, .int 0, .int 0])), (q0, .inl (cT 0, 8, .inl (fun _ => 0))), (q1, .inl (cT 1, 8, .inr (.inl (fun _ => 0)))), (q2, .inl (cT 0, 256, .inl (fun _ => 0))), (q3, .inl (cT 0, 1600, .inl (fun _ => 0))), (q4, .inl (cT 1, 1600, .inr (.inl (fun _ => 0))))] H := hP
  have hD : va_D A [(h0, .inr (2, [.null, .null, .ref q0, .ref q1, .ref q2, .ref q3, .null, .int 0, .int 0, .long 0, .int 0, .int 0, .int 0, .int 0, .int 0])), (q0, .inl (cT 0, 8, .inl (fun _ => 0))), (q1, .inl (cT 1, 8, .inr (.inl (fun _ => 0)))), (q2, .inl (cT 0, 256, .inl (fun _ => 0))), (q3, .inl (cT 0, 1600, .inl (fun _ => 0))), (q4, .inl (cT 1, 1600, .inr (.inl (fun _ => 0))))] := hD
  refine W.widen (k := 5) (n := 3472) (by decide) (by decide) ?_
  refine va_putF (D := D) (ci := 2) (v := .ref q4) (ty := tyX6 6) (C := RX6) (T := TX6) (N := 15) hx hb hts inx6 tyX6 tyX6_ok nmX6 hown hK hP hD hS 0 rfl rfl 6 (by decide) (hts (.fieldLink RX6 25 "ArrayRules$Worker" "heldAmounts" "[J") (x_t1 (i := 98) rfl rfl)) (fun _ h9 => h9) rfl hin rfl (by decide +kernel) rfl rfl (Nat.le_of_ble_eq_true rfl) dX6_init_44 (fun H locs hP hD hS => ?_)
  have hP : va_P D vwCl [(h0, .inr (2, [.null, .null, .ref q0, .ref q1, .ref q2, .ref q3, .ref q4, .int 0, .int 0, .long 0, .int 0, .int 0, .int 0, .int 0, .int 0])), (q0, .inl (cT 0, 8, .inl (fun _ => 0))), (q1, .inl (cT 1, 8, .inr (.inl (fun _ => 0)))), (q2, .inl (cT 0, 256, .inl (fun _ => 0))), (q3, .inl (cT 0, 1600, .inl (fun _ => 0))), (q4, .inl (cT 1, 1600, .inr (.inl (fun _ => 0))))] H := hP
  have hD : va_D A [(h0, .inr (2, [.null, .null, .ref q0, .ref q1, .ref q2, .ref q3, .ref q4, .int 0, .int 0, .long 0, .int 0, .int 0, .int 0, .int 0, .int 0])), (q0, .inl (cT 0, 8, .inl (fun _ => 0))), (q1, .inl (cT 1, 8, .inr (.inl (fun _ => 0)))), (q2, .inl (cT 0, 256, .inl (fun _ => 0))), (q3, .inl (cT 0, 1600, .inl (fun _ => 0))), (q4, .inl (cT 1, 1600, .inr (.inl (fun _ => 0))))] := hD
  refine lv_aload_n hx hb dX6_init_47 rfl (lv_at hl 0 rfl) ?_
  refine lv_iconst (v := 0) hx hb dX6_init_48 (by decide) ?_
  refine va_put (D := D) (ci := 2) (v := .int 0) (ty := tyX6 7) (C := RX6) (T := TX6) (N := 15) hx hb hts inx6 tyX6 tyX6_ok nmX6 hown hK hP hD hS 0 rfl rfl 7 (by decide) (hts (.fieldLink RX6 28 "ArrayRules$Worker" "held" "I") (x_t1 (i := 99) rfl rfl)) (fun _ h9 => h9) rfl (by decide +kernel) rfl rfl (Nat.le_of_ble_eq_true rfl) dX6_init_49 (fun H locs hP hD hS => ?_)
  have hP : va_P D vwCl [(h0, .inr (2, [.null, .null, .ref q0, .ref q1, .ref q2, .ref q3, .ref q4, .int 0, .int 0, .long 0, .int 0, .int 0, .int 0, .int 0, .int 0])), (q0, .inl (cT 0, 8, .inl (fun _ => 0))), (q1, .inl (cT 1, 8, .inr (.inl (fun _ => 0)))), (q2, .inl (cT 0, 256, .inl (fun _ => 0))), (q3, .inl (cT 0, 1600, .inl (fun _ => 0))), (q4, .inl (cT 1, 1600, .inr (.inl (fun _ => 0))))] H := hP
  have hD : va_D A [(h0, .inr (2, [.null, .null, .ref q0, .ref q1, .ref q2, .ref q3, .ref q4, .int 0, .int 0, .long 0, .int 0, .int 0, .int 0, .int 0, .int 0])), (q0, .inl (cT 0, 8, .inl (fun _ => 0))), (q1, .inl (cT 1, 8, .inr (.inl (fun _ => 0)))), (q2, .inl (cT 0, 256, .inl (fun _ => 0))), (q3, .inl (cT 0, 1600, .inl (fun _ => 0))), (q4, .inl (cT 1, 1600, .inr (.inl (fun _ => 0))))] := hD
  refine lv_aload_n hx hb dX6_init_52 rfl (lv_at hl 0 rfl) ?_
  refine lv_iconst (v := 0) hx hb dX6_init_53 (by decide) ?_
  refine va_put (D := D) (ci := 2) (v := .int 0) (ty := tyX6 8) (C := RX6) (T := TX6) (N := 15) hx hb hts inx6 tyX6 tyX6_ok nmX6 hown hK hP hD hS 0 rfl rfl 8 (by decide) (hts (.fieldLink RX6 32 "ArrayRules$Worker" "kind" "I") (x_t1 (i := 100) rfl rfl)) (fun _ h9 => h9) rfl (by decide +kernel) rfl rfl (Nat.le_of_ble_eq_true rfl) dX6_init_54 (fun H locs hP hD hS => ?_)
  have hP : va_P D vwCl [(h0, .inr (2, [.null, .null, .ref q0, .ref q1, .ref q2, .ref q3, .ref q4, .int 0, .int 0, .long 0, .int 0, .int 0, .int 0, .int 0, .int 0])), (q0, .inl (cT 0, 8, .inl (fun _ => 0))), (q1, .inl (cT 1, 8, .inr (.inl (fun _ => 0)))), (q2, .inl (cT 0, 256, .inl (fun _ => 0))), (q3, .inl (cT 0, 1600, .inl (fun _ => 0))), (q4, .inl (cT 1, 1600, .inr (.inl (fun _ => 0))))] H := hP
  have hD : va_D A [(h0, .inr (2, [.null, .null, .ref q0, .ref q1, .ref q2, .ref q3, .ref q4, .int 0, .int 0, .long 0, .int 0, .int 0, .int 0, .int 0, .int 0])), (q0, .inl (cT 0, 8, .inl (fun _ => 0))), (q1, .inl (cT 1, 8, .inr (.inl (fun _ => 0)))), (q2, .inl (cT 0, 256, .inl (fun _ => 0))), (q3, .inl (cT 0, 1600, .inl (fun _ => 0))), (q4, .inl (cT 1, 1600, .inr (.inl (fun _ => 0))))] := hD
  refine lv_aload_n hx hb dX6_init_57 rfl (lv_at hl 0 rfl) ?_
  refine lv_lconst (v := 0) hx hb dX6_init_58 (by decide) ?_
  refine va_put (D := D) (ci := 2) (v := .long 0) (ty := tyX6 9) (C := RX6) (T := TX6) (N := 15) hx hb hts inx6 tyX6 tyX6_ok nmX6 hown hK hP hD hS 0 rfl rfl 9 (by decide) (hts (.fieldLink RX6 35 "ArrayRules$Worker" "amount" "J") (x_t1 (i := 101) rfl rfl)) (fun _ h9 => h9) rfl (by decide +kernel) rfl rfl (Nat.le_of_ble_eq_true rfl) dX6_init_59 (fun H locs hP hD hS => ?_)
  have hP : va_P D vwCl [(h0, .inr (2, [.null, .null, .ref q0, .ref q1, .ref q2, .ref q3, .ref q4, .int 0, .int 0, .long 0, .int 0, .int 0, .int 0, .int 0, .int 0])), (q0, .inl (cT 0, 8, .inl (fun _ => 0))), (q1, .inl (cT 1, 8, .inr (.inl (fun _ => 0)))), (q2, .inl (cT 0, 256, .inl (fun _ => 0))), (q3, .inl (cT 0, 1600, .inl (fun _ => 0))), (q4, .inl (cT 1, 1600, .inr (.inl (fun _ => 0))))] H := hP
  have hD : va_D A [(h0, .inr (2, [.null, .null, .ref q0, .ref q1, .ref q2, .ref q3, .ref q4, .int 0, .int 0, .long 0, .int 0, .int 0, .int 0, .int 0, .int 0])), (q0, .inl (cT 0, 8, .inl (fun _ => 0))), (q1, .inl (cT 1, 8, .inr (.inl (fun _ => 0)))), (q2, .inl (cT 0, 256, .inl (fun _ => 0))), (q3, .inl (cT 0, 1600, .inl (fun _ => 0))), (q4, .inl (cT 1, 1600, .inr (.inl (fun _ => 0))))] := hD
  refine lv_aload_n hx hb dX6_init_62 rfl (lv_at hl 0 rfl) ?_
  refine lv_iconst (v := 0) hx hb dX6_init_63 (by decide) ?_
  refine va_put (D := D) (ci := 2) (v := .int 0) (ty := tyX6 10) (C := RX6) (T := TX6) (N := 15) hx hb hts inx6 tyX6 tyX6_ok nmX6 hown hK hP hD hS 0 rfl rfl 10 (by decide) (hts (.fieldLink RX6 41 "ArrayRules$Worker" "failure" "I") (x_t1 (i := 103) rfl rfl)) (fun _ h9 => h9) rfl (by decide +kernel) rfl rfl (Nat.le_of_ble_eq_true rfl) dX6_init_64 (fun H locs hP hD hS => ?_)
  have hP : va_P D vwCl [(h0, .inr (2, [.null, .null, .ref q0, .ref q1, .ref q2, .ref q3, .ref q4, .int 0, .int 0, .long 0, .int 0, .int 0, .int 0, .int 0, .int 0])), (q0, .inl (cT 0, 8, .inl (fun _ => 0))), (q1, .inl (cT 1, 8, .inr (.inl (fun _ => 0)))), (q2, .inl (cT 0, 256, .inl (fun _ => 0))), (q3, .inl (cT 0, 1600, .inl (fun _ => 0))), (q4, .inl (cT 1, 1600, .inr (.inl (fun _ => 0))))] H := hP
  have hD : va_D A [(h0, .inr (2, [.null, .null, .ref q0, .ref q1, .ref q2, .ref q3, .ref q4, .int 0, .int 0, .long 0, .int 0, .int 0, .int 0, .int 0, .int 0])), (q0, .inl (cT 0, 8, .inl (fun _ => 0))), (q1, .inl (cT 1, 8, .inr (.inl (fun _ => 0)))), (q2, .inl (cT 0, 256, .inl (fun _ => 0))), (q3, .inl (cT 0, 1600, .inl (fun _ => 0))), (q4, .inl (cT 1, 1600, .inr (.inl (fun _ => 0))))] := hD
  refine lv_aload_n hx hb dX6_init_67 rfl (lv_at hl 0 rfl) ?_
  refine lv_iconst (v := (-1)) hx hb dX6_init_68 (by decide) ?_
  refine va_put (D := D) (ci := 2) (v := .int (-1)) (ty := tyX6 11) (C := RX6) (T := TX6) (N := 15) hx hb hts inx6 tyX6 tyX6_ok nmX6 hown hK hP hD hS 0 rfl rfl 11 (by decide) (hts (.fieldLink RX6 44 "ArrayRules$Worker" "failedAt" "I") (x_t1 (i := 104) rfl rfl)) (fun _ h9 => h9) rfl (by decide +kernel) rfl rfl (Nat.le_of_ble_eq_true rfl) dX6_init_69 (fun H locs hP hD hS => ?_)
  have hP : va_P D vwCl [(h0, .inr (2, [.null, .null, .ref q0, .ref q1, .ref q2, .ref q3, .ref q4, .int 0, .int 0, .long 0, .int 0, .int (-1), .int 0, .int 0, .int 0])), (q0, .inl (cT 0, 8, .inl (fun _ => 0))), (q1, .inl (cT 1, 8, .inr (.inl (fun _ => 0)))), (q2, .inl (cT 0, 256, .inl (fun _ => 0))), (q3, .inl (cT 0, 1600, .inl (fun _ => 0))), (q4, .inl (cT 1, 1600, .inr (.inl (fun _ => 0))))] H := hP
  have hD : va_D A [(h0, .inr (2, [.null, .null, .ref q0, .ref q1, .ref q2, .ref q3, .ref q4, .int 0, .int 0, .long 0, .int 0, .int (-1), .int 0, .int 0, .int 0])), (q0, .inl (cT 0, 8, .inl (fun _ => 0))), (q1, .inl (cT 1, 8, .inr (.inl (fun _ => 0)))), (q2, .inl (cT 0, 256, .inl (fun _ => 0))), (q3, .inl (cT 0, 1600, .inl (fun _ => 0))), (q4, .inl (cT 1, 1600, .inr (.inl (fun _ => 0))))] := hD
  refine lv_aload_n hx hb dX6_init_72 rfl (lv_at hl 0 rfl) ?_
  refine lv_iconst (v := 0) hx hb dX6_init_73 (by decide) ?_
  refine va_put (D := D) (ci := 2) (v := .int 0) (ty := tyX6 12) (C := RX6) (T := TX6) (N := 15) hx hb hts inx6 tyX6 tyX6_ok nmX6 hown hK hP hD hS 0 rfl rfl 12 (by decide) (hts (.fieldLink RX6 47 "ArrayRules$Worker" "nodesWorked" "I") (x_t1 (i := 106) rfl rfl)) (fun _ h9 => h9) rfl (by decide +kernel) rfl rfl (Nat.le_of_ble_eq_true rfl) dX6_init_74 (fun H locs hP hD hS => ?_)
  have hP : va_P D vwCl [(h0, .inr (2, [.null, .null, .ref q0, .ref q1, .ref q2, .ref q3, .ref q4, .int 0, .int 0, .long 0, .int 0, .int (-1), .int 0, .int 0, .int 0])), (q0, .inl (cT 0, 8, .inl (fun _ => 0))), (q1, .inl (cT 1, 8, .inr (.inl (fun _ => 0)))), (q2, .inl (cT 0, 256, .inl (fun _ => 0))), (q3, .inl (cT 0, 1600, .inl (fun _ => 0))), (q4, .inl (cT 1, 1600, .inr (.inl (fun _ => 0))))] H := hP
  have hD : va_D A [(h0, .inr (2, [.null, .null, .ref q0, .ref q1, .ref q2, .ref q3, .ref q4, .int 0, .int 0, .long 0, .int 0, .int (-1), .int 0, .int 0, .int 0])), (q0, .inl (cT 0, 8, .inl (fun _ => 0))), (q1, .inl (cT 1, 8, .inr (.inl (fun _ => 0)))), (q2, .inl (cT 0, 256, .inl (fun _ => 0))), (q3, .inl (cT 0, 1600, .inl (fun _ => 0))), (q4, .inl (cT 1, 1600, .inr (.inl (fun _ => 0))))] := hD
  refine lv_aload_n hx hb dX6_init_77 rfl (lv_at hl 0 rfl) ?_
  refine lv_iconst (v := 0) hx hb dX6_init_78 (by decide) ?_
  refine va_put (D := D) (ci := 2) (v := .int 0) (ty := tyX6 13) (C := RX6) (T := TX6) (N := 15) hx hb hts inx6 tyX6 tyX6_ok nmX6 hown hK hP hD hS 0 rfl rfl 13 (by decide) (hts (.fieldLink RX6 50 "ArrayRules$Worker" "noted" "I") (x_t1 (i := 108) rfl rfl)) (fun _ h9 => h9) rfl (by decide +kernel) rfl rfl (Nat.le_of_ble_eq_true rfl) dX6_init_79 (fun H locs hP hD hS => ?_)
  have hP : va_P D vwCl [(h0, .inr (2, [.null, .null, .ref q0, .ref q1, .ref q2, .ref q3, .ref q4, .int 0, .int 0, .long 0, .int 0, .int (-1), .int 0, .int 0, .int 0])), (q0, .inl (cT 0, 8, .inl (fun _ => 0))), (q1, .inl (cT 1, 8, .inr (.inl (fun _ => 0)))), (q2, .inl (cT 0, 256, .inl (fun _ => 0))), (q3, .inl (cT 0, 1600, .inl (fun _ => 0))), (q4, .inl (cT 1, 1600, .inr (.inl (fun _ => 0))))] H := hP
  have hD : va_D A [(h0, .inr (2, [.null, .null, .ref q0, .ref q1, .ref q2, .ref q3, .ref q4, .int 0, .int 0, .long 0, .int 0, .int (-1), .int 0, .int 0, .int 0])), (q0, .inl (cT 0, 8, .inl (fun _ => 0))), (q1, .inl (cT 1, 8, .inr (.inl (fun _ => 0)))), (q2, .inl (cT 0, 256, .inl (fun _ => 0))), (q3, .inl (cT 0, 1600, .inl (fun _ => 0))), (q4, .inl (cT 1, 1600, .inr (.inl (fun _ => 0))))] := hD
  refine lv_aload_n hx hb dX6_init_82 rfl (lv_at hl 0 rfl) ?_
  refine lv_iconst (v := 0) hx hb dX6_init_83 (by decide) ?_
  refine va_put (D := D) (ci := 2) (v := .int 0) (ty := tyX6 14) (C := RX6) (T := TX6) (N := 15) hx hb hts inx6 tyX6 tyX6_ok nmX6 hown hK hP hD hS 0 rfl rfl 14 (by decide) (hts (.fieldLink RX6 53 "ArrayRules$Worker" "catches" "I") (x_t1 (i := 110) rfl rfl)) (fun _ h9 => h9) rfl (by decide +kernel) rfl rfl (Nat.le_of_ble_eq_true rfl) dX6_init_84 (fun H locs hP hD hS => ?_)
  have hP : va_P D vwCl [(h0, .inr (2, [.null, .null, .ref q0, .ref q1, .ref q2, .ref q3, .ref q4, .int 0, .int 0, .long 0, .int 0, .int (-1), .int 0, .int 0, .int 0])), (q0, .inl (cT 0, 8, .inl (fun _ => 0))), (q1, .inl (cT 1, 8, .inr (.inl (fun _ => 0)))), (q2, .inl (cT 0, 256, .inl (fun _ => 0))), (q3, .inl (cT 0, 1600, .inl (fun _ => 0))), (q4, .inl (cT 1, 1600, .inr (.inl (fun _ => 0))))] H := hP
  have hD : va_D A [(h0, .inr (2, [.null, .null, .ref q0, .ref q1, .ref q2, .ref q3, .ref q4, .int 0, .int 0, .long 0, .int 0, .int (-1), .int 0, .int 0, .int 0])), (q0, .inl (cT 0, 8, .inl (fun _ => 0))), (q1, .inl (cT 1, 8, .inr (.inl (fun _ => 0)))), (q2, .inl (cT 0, 256, .inl (fun _ => 0))), (q3, .inl (cT 0, 1600, .inl (fun _ => 0))), (q4, .inl (cT 1, 1600, .inr (.inl (fun _ => 0))))] := hD
  refine lv_aload_n hx hb dX6_init_87 rfl (lv_at hl 0 rfl) ?_
  refine lv_aload_n hx hb dX6_init_88 rfl (lv_at hl 1 rfl) ?_
  refine va_putF (D := D) (ci := 2) (v := .ref b1) (ty := tyX6 0) (C := RX6) (T := TX6) (N := 15) hx hb hts inx6 tyX6 tyX6_ok nmX6 hown hK hP hD hS 0 rfl rfl 0 (by decide) (hts (.fieldLink RX6 56 "ArrayRules$Worker" "program" "LArrayRules$Program;") (x_t1 (i := 90) rfl rfl)) (fun _ h9 => h9) rfl hin rfl (by decide +kernel) rfl rfl (Nat.le_of_ble_eq_true rfl) dX6_init_89 (fun H locs hP hD hS => ?_)
  have hP : va_P D vwCl [(h0, .inr (2, [.ref b1, .null, .ref q0, .ref q1, .ref q2, .ref q3, .ref q4, .int 0, .int 0, .long 0, .int 0, .int (-1), .int 0, .int 0, .int 0])), (q0, .inl (cT 0, 8, .inl (fun _ => 0))), (q1, .inl (cT 1, 8, .inr (.inl (fun _ => 0)))), (q2, .inl (cT 0, 256, .inl (fun _ => 0))), (q3, .inl (cT 0, 1600, .inl (fun _ => 0))), (q4, .inl (cT 1, 1600, .inr (.inl (fun _ => 0))))] H := hP
  have hD : va_D A [(h0, .inr (2, [.ref b1, .null, .ref q0, .ref q1, .ref q2, .ref q3, .ref q4, .int 0, .int 0, .long 0, .int 0, .int (-1), .int 0, .int 0, .int 0])), (q0, .inl (cT 0, 8, .inl (fun _ => 0))), (q1, .inl (cT 1, 8, .inr (.inl (fun _ => 0)))), (q2, .inl (cT 0, 256, .inl (fun _ => 0))), (q3, .inl (cT 0, 1600, .inl (fun _ => 0))), (q4, .inl (cT 1, 1600, .inr (.inl (fun _ => 0))))] := hD
  refine lv_aload_n hx hb dX6_init_92 rfl (lv_at hl 0 rfl) ?_
  refine lv_aload_n hx hb dX6_init_93 rfl (lv_at hl 2 rfl) ?_
  refine va_putF (D := D) (ci := 2) (v := .ref b2) (ty := tyX6 1) (C := RX6) (T := TX6) (N := 15) hx hb hts inx6 tyX6 tyX6_ok nmX6 hown hK hP hD hS 0 rfl rfl 1 (by decide) (hts (.fieldLink RX6 60 "ArrayRules$Worker" "heap" "LArrayRules$Heap;") (x_t1 (i := 91) rfl rfl)) (fun _ h9 => h9) rfl hin rfl (by decide +kernel) rfl rfl (Nat.le_of_ble_eq_true rfl) dX6_init_94 (fun H locs hP hD hS => ?_)
  have hP : va_P D vwCl [(h0, .inr (2, [.ref b1, .ref b2, .ref q0, .ref q1, .ref q2, .ref q3, .ref q4, .int 0, .int 0, .long 0, .int 0, .int (-1), .int 0, .int 0, .int 0])), (q0, .inl (cT 0, 8, .inl (fun _ => 0))), (q1, .inl (cT 1, 8, .inr (.inl (fun _ => 0)))), (q2, .inl (cT 0, 256, .inl (fun _ => 0))), (q3, .inl (cT 0, 1600, .inl (fun _ => 0))), (q4, .inl (cT 1, 1600, .inr (.inl (fun _ => 0))))] H := hP
  have hD : va_D A [(h0, .inr (2, [.ref b1, .ref b2, .ref q0, .ref q1, .ref q2, .ref q3, .ref q4, .int 0, .int 0, .long 0, .int 0, .int (-1), .int 0, .int 0, .int 0])), (q0, .inl (cT 0, 8, .inl (fun _ => 0))), (q1, .inl (cT 1, 8, .inr (.inl (fun _ => 0)))), (q2, .inl (cT 0, 256, .inl (fun _ => 0))), (q3, .inl (cT 0, 1600, .inl (fun _ => 0))), (q4, .inl (cT 1, 1600, .inr (.inl (fun _ => 0))))] := hD
  exact W.vret hx hb hr (fun t ht hW => ⟨⟨(fun k => match k with | 0 => q0 | 1 => q1 | 2 => q2 | 3 => q3 | _ => q4), rfl, trivial, by rw [ht]; exact hP, va_K.moved hW.alike hK, hD⟩, hS.F ht⟩) hS.2.2 dX6_init_97
