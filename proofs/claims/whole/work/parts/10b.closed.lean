theorem x_tys0 (cT : Nat → ClassId) : (x_tys cT)[0]? = some (cT 0, .int) := rfl
theorem x_tys1 (cT : Nat → ClassId) : (x_tys cT)[1]? = some (cT 1, .long) := rfl
theorem x_tys2 (cT : Nat → ClassId) : (x_tys cT)[2]? = some (cT 2, .double) := rfl
theorem x_tys3 (cT : Nat → ClassId) : (x_tys cT)[3]? = some (cT 3, .boolean) := rfl
theorem x_apart {A : Nat → Prop} {ws : va_W} {H0 H : Heap} {locs : List Loc} (hD : va_D A ws) (hS : va_S A H0 H locs) (hA : ∀ q, H0.size ≤ q → A q) : ∀ q, va_A ws H.size q → A q := by
  intro q h
  rcases h with ⟨k, e, h⟩ | h
  · exact hD.2 k (q, e) h
  · exact hA q (Nat.le_trans hS.1 h)
theorem x_tb_at {sw : List (Int32 × Nat)} {lo : Int} {pc : Nat} {offs : Array Int} (h : sw.map (fun q => (q.1.toInt, (q.2 : Int))) = (List.range offs.size).map (fun (j : Nat) => (lo + (j : Int), (pc : Int) + offs.toList.getD j 0))) {j : Nat} {q : Int32 × Nat} (hq : sw[j]? = some q) : q.1.toInt = lo + (j : Int) ∧ j < offs.size ∧ (q.2 : Int) = (pc : Int) + offs.toList.getD j 0 := by
  have h1 : (sw.map (fun q => (q.1.toInt, (q.2 : Int))))[j]? = some (q.1.toInt, (q.2 : Int)) := by rw [List.getElem?_map, hq]; rfl
  rw [h, List.getElem?_map] at h1
  by_cases hj : j < offs.size
  · rw [List.getElem?_range hj] at h1
    simp only [Option.map_some, Option.some.injEq, Prod.mk.injEq] at h1
    exact ⟨h1.1.symm, hj, h1.2.symm⟩
  · rw [List.getElem?_eq_none (by simp; omega)] at h1
    simp at h1
theorem x_tb_len {sw : List (Int32 × Nat)} {lo : Int} {pc : Nat} {offs : Array Int} (h : sw.map (fun q => (q.1.toInt, (q.2 : Int))) = (List.range offs.size).map (fun (j : Nat) => (lo + (j : Int), (pc : Int) + offs.toList.getD j 0))) : sw.length = offs.size := by
  have := congrArg List.length h
  simpa using this
theorem x_lks {k : Nat → Prop} {a : Int32} {pc x : Nat} : ∀ (ps : List (Int × Int)) (sw : List (Int32 × Nat)) (df : Int), sw.map (fun q => (q.1.toInt, (q.2 : Int))) = ps.map (fun q => (q.1, (pc : Int) + q.2)) → (pc : Int) + df = (x : Int) → x_sw a k x sw → ∃ t : Nat, (pc : Int) + Op.lookupswitch.offset ps df a.toInt = (t : Int) ∧ k t
  | [], [], df, _, h0, h => ⟨x, h0, h⟩
  | [], _ :: _, _, hm, _, _ => by simp at hm
  | _ :: _, [], _, hm, _, _ => by simp at hm
  | (c, o) :: ps, (c2, t2) :: sw, df, hm, h0, h => by
    simp only [List.map_cons, List.cons.injEq, Prod.mk.injEq] at hm
    obtain ⟨⟨e1, e2⟩, e3⟩ := hm
    by_cases ha : a = c2
    · subst ha
      refine ⟨t2, ?_, h.1 rfl⟩
      rw [e2, e1]
      simp [Op.lookupswitch.offset]
    · obtain ⟨t, g1, g2⟩ := x_lks ps sw df e3 h0 (h.2 ha)
      refine ⟨t, ?_, g2⟩
      rw [← g1]
      have hne : ¬ c = a.toInt := fun z => ha (Int32.toInt_inj.mp (by rw [e1]; exact z.symm))
      simp [Op.lookupswitch.offset, hne, Ne.symm hne]
set_option maxHeartbeats 8000000 in
set_option maxRecDepth 20000 in
theorem x_closed {p : Program} {l : Launch} {e : Env} {s : State} {m : MethodId} {args : Array Value} {below : List Frame} {meth : Method} {c : Code} {D : va_G} {ad : Nat → Nat} {cT : Nat → ClassId} {A : Nat → Prop} {Q : xQ} {d nL on : Nat} {cc : ByteArray} {ret : Option FieldType} {C : xC} {L : xL}
    (hx : p.tables.exec = Jvm.exec) (hb : c.code = cc) (hml : c.maxLocals = nL) (hr : meth.sig.returnType = ret) (hlk : meth.locks = false) (hown : s.vm.findClass (xR on) = some m.cls) (hts : ∀ w ∈ xTs, w.before args s = true) (hK : va_K D vwCl (x_tys cT) s) (hN : ∀ c ∈ xNs, va_Nw c s) (hA : ∀ q, s.heap.size ≤ q → A q)
    (hC : ∀ M as w Q, C M as w Q → (∃ (L : xL) (nL rc na on : Nat) (y : MethodName) (cc : ByteArray) (ret : Option FieldType), x_row M = some (L, nL, rc, na, on, y, cc, ret) ∧ x_ck rc na as w = true ∧ x_wd as ≤ nL) ∧ x_Con l D ad cT d M as w Q) (hok : L.flatten.all (x_okb on nL cc ret) = true) :
    ∀ pc ls st w, x1 C L (x_G p l e (x_rm (d + 1)) s m args below meth c D ad cT A Q nL) Q pc ls st w → x_G p l e (x_rm (d + 1)) s m args below meth c D ad cT A Q nL pc ls st w := by
  intro pc ls st w h
  unfold x1 at h
  split at h
  · exact h.elim
  next ins np x y v sw hlook =>
    obtain ⟨hd, hlen, hq⟩ := x_okb_spec (List.all_eq_true.mp hok _ (x_look_mem hlook))
    intro H locs lsA hP hD hS hl
    cases ins with
    | iconst n =>
      obtain ⟨rfl, hd1⟩ := x_fix (k := 1) hd hlen
      have hv := of_decide_eq_true hq
      subst hv
      exact lv_iconst hx hb hd1 rfl (h H locs lsA hP hD hS hl)
    | bipush n =>
      obtain ⟨rfl, hd1⟩ := x_fix (k := 2) hd hlen
      have hv := of_decide_eq_true hq
      subst hv
      exact lv_bipush hx hb hd1 rfl (h H locs lsA hP hD hS hl)
    | sipush n =>
      obtain ⟨rfl, hd1⟩ := x_fix (k := 3) hd hlen
      have hv := of_decide_eq_true hq
      subst hv
      exact lv_sipush hx hb hd1 rfl (h H locs lsA hP hD hS hl)
    | lconst n =>
      obtain ⟨rfl, hd1⟩ := x_fix (k := 1) hd hlen
      have hv := of_decide_eq_true hq
      subst hv
      exact lv_lconst hx hb hd1 rfl (h H locs lsA hP hD hS hl)
    | dconst n =>
      obtain ⟨rfl, hd1⟩ := x_fix (k := 1) hd hlen
      have hq : (Nat.beq n.val 0 && decide (v = .double FP.dconst0) || Nat.beq n.val 1 && decide (v = .double FP.dconst1)) = true := hq
      simp only [Bool.or_eq_true, Bool.and_eq_true, decide_eq_true_eq] at hq
      rcases hq with ⟨h1, h2⟩ | ⟨h1, h2⟩
      · have h3 : n = 0 := Fin.ext (Nat.eq_of_beq_eq_true h1)
        subst h3
        subst h2
        exact lv_dconst0 hx hb hd1 (h H locs lsA hP hD hS hl)
      · have h3 : n = 1 := Fin.ext (Nat.eq_of_beq_eq_true h1)
        subst h3
        subst h2
        exact lv_dconst1 hx hb hd1 (h H locs lsA hP hD hS hl)
    | ldc2_w i =>
      obtain ⟨rfl, hd1⟩ := x_fix (k := 3) hd hlen
      have hc := x_cls_ok _ (x_any hq)
      cases v with
      | long a => exact lv_ldc2 hx hb hown (hts _ hc) hd1 (h H locs lsA hP hD hS hl)
      | double a => exact lv_ldc2d hx hb hown (hts _ hc) hd1 (h H locs lsA hP hD hS hl)
      | _ => exact hc.elim
    | iload_n k =>
      obtain ⟨rfl, hd1⟩ := x_fix (k := 1) hd hlen
      dsimp only at h
      split at h
      next a ha => exact lv_iload_n hx hb hd1 (Nat.eq_of_beq_eq_true hq) (x_lk_has (ad := ad) ha hl) (h H locs lsA hP hD hS hl)
      next => exact h.elim
    | lload_n k =>
      obtain ⟨rfl, hd1⟩ := x_fix (k := 1) hd hlen
      dsimp only at h
      split at h
      next a ha => exact lv_lload_n hx hb hd1 (Nat.eq_of_beq_eq_true hq) (x_lk_has (ad := ad) ha hl) (h H locs lsA hP hD hS hl)
      next => exact h.elim
    | dload_n k =>
      obtain ⟨rfl, hd1⟩ := x_fix (k := 1) hd hlen
      dsimp only at h
      split at h
      next a ha => exact lv_dload_n hx hb hd1 (Nat.eq_of_beq_eq_true hq) (x_lk_has (ad := ad) ha hl) (h H locs lsA hP hD hS hl)
      next => exact h.elim
    | aload_n k =>
      obtain ⟨rfl, hd1⟩ := x_fix (k := 1) hd hlen
      dsimp only at h
      split at h
      next a ha => exact lv_aload_n hx hb hd1 (Nat.eq_of_beq_eq_true hq) (x_lk_has (ad := ad) ha hl) (h H locs lsA hP hD hS hl)
      next => exact h.elim
    | iload k =>
      obtain ⟨rfl, hd1⟩ := x_fix (k := 2) hd hlen
      have hk := Nat.eq_of_beq_eq_true hq
      subst hk
      dsimp only at h
      split at h
      next a ha => exact lv_iload hx hb hd1 (x_lk_has (ad := ad) ha hl) (h H locs lsA hP hD hS hl)
      next => exact h.elim
    | lload k =>
      obtain ⟨rfl, hd1⟩ := x_fix (k := 2) hd hlen
      have hk := Nat.eq_of_beq_eq_true hq
      subst hk
      dsimp only at h
      split at h
      next a ha => exact lv_lload hx hb hd1 (x_lk_has (ad := ad) ha hl) (h H locs lsA hP hD hS hl)
      next => exact h.elim
    | dload k =>
      obtain ⟨rfl, hd1⟩ := x_fix (k := 2) hd hlen
      have hk := Nat.eq_of_beq_eq_true hq
      subst hk
      dsimp only at h
      split at h
      next a ha => exact lv_dload hx hb hd1 (x_lk_has (ad := ad) ha hl) (h H locs lsA hP hD hS hl)
      next => exact h.elim
    | fload k =>
      obtain ⟨rfl, hd1⟩ := x_fix (k := 2) hd hlen
      have hk := Nat.eq_of_beq_eq_true hq
      subst hk
      dsimp only at h
      split at h
      next a ha => exact lv_fload hx hb hd1 (x_lk_has (ad := ad) ha hl) (h H locs lsA hP hD hS hl)
      next => exact h.elim
    | aload k =>
      obtain ⟨rfl, hd1⟩ := x_fix (k := 2) hd hlen
      have hk := Nat.eq_of_beq_eq_true hq
      subst hk
      dsimp only at h
      split at h
      next a ha => exact lv_aload hx hb hd1 (x_lk_has (ad := ad) ha hl) (h H locs lsA hP hD hS hl)
      next => exact h.elim
    | istore_n k =>
      obtain ⟨rfl, hd1⟩ := x_fix (k := 1) hd hlen
      have hq2 := Bool.and_eq_true_iff.mp hq
      dsimp only at h
      split at h
      next a r => exact lv_istore_n hx hb hd1 (Nat.eq_of_beq_eq_true hq2.1) hl (Nat.le_of_ble_eq_true hq2.2) rfl (fun lsB hl => h H locs lsB hP hD hS (x_put1_has (ad := ad) hl))
      next => exact h.elim
    | lstore_n k =>
      obtain ⟨rfl, hd1⟩ := x_fix (k := 1) hd hlen
      have hq2 := Bool.and_eq_true_iff.mp hq
      dsimp only at h
      split at h
      next a r => exact lv_lstore_n hx hb hd1 (Nat.eq_of_beq_eq_true hq2.1) hl (Nat.le_of_ble_eq_true hq2.2) rfl (fun lsB hl => h H locs lsB hP hD hS (x_put2_has (ad := ad) hl))
      next => exact h.elim
    | dstore_n k =>
      obtain ⟨rfl, hd1⟩ := x_fix (k := 1) hd hlen
      have hq2 := Bool.and_eq_true_iff.mp hq
      dsimp only at h
      split at h
      next a r => exact lv_dstore_n hx hb hd1 (Nat.eq_of_beq_eq_true hq2.1) hl (Nat.le_of_ble_eq_true hq2.2) rfl (fun lsB hl => h H locs lsB hP hD hS (x_put2_has (ad := ad) hl))
      next => exact h.elim
    | istore k =>
      obtain ⟨rfl, hd1⟩ := x_fix (k := 2) hd hlen
      have hq2 := Bool.and_eq_true_iff.mp hq
      have hk := Nat.eq_of_beq_eq_true hq2.1
      subst hk
      dsimp only at h
      split at h
      next a r => exact lv_istore hx hb hd1 hl (Nat.le_of_ble_eq_true hq2.2) rfl (fun lsB hl => h H locs lsB hP hD hS (x_put1_has (ad := ad) hl))
      next => exact h.elim
    | fstore k =>
      obtain ⟨rfl, hd1⟩ := x_fix (k := 2) hd hlen
      have hq2 := Bool.and_eq_true_iff.mp hq
      have hk := Nat.eq_of_beq_eq_true hq2.1
      subst hk
      dsimp only at h
      split at h
      next a r => exact lv_fstore hx hb hd1 hl (Nat.le_of_ble_eq_true hq2.2) rfl (fun lsB hl => h H locs lsB hP hD hS (x_put1_has (ad := ad) hl))
      next => exact h.elim
    | lstore k =>
      obtain ⟨rfl, hd1⟩ := x_fix (k := 2) hd hlen
      have hq2 := Bool.and_eq_true_iff.mp hq
      have hk := Nat.eq_of_beq_eq_true hq2.1
      subst hk
      dsimp only at h
      split at h
      next a r => exact lv_lstore hx hb hd1 hl (Nat.le_of_ble_eq_true hq2.2) rfl (fun lsB hl => h H locs lsB hP hD hS (x_put2_has (ad := ad) hl))
      next => exact h.elim
    | dstore k =>
      obtain ⟨rfl, hd1⟩ := x_fix (k := 2) hd hlen
      have hq2 := Bool.and_eq_true_iff.mp hq
      have hk := Nat.eq_of_beq_eq_true hq2.1
      subst hk
      dsimp only at h
      split at h
      next a r => exact lv_dstore hx hb hd1 hl (Nat.le_of_ble_eq_true hq2.2) rfl (fun lsB hl => h H locs lsB hP hD hS (x_put2_has (ad := ad) hl))
      next => exact h.elim
    | iinc k n =>
      obtain ⟨rfl, hd1⟩ := x_fix (k := 3) hd hlen
      have hq2 := Bool.and_eq_true_iff.mp hq
      have hk := Nat.eq_of_beq_eq_true hq2.1
      subst hk
      have hq3 := Bool.and_eq_true_iff.mp hq2.2
      have hv := of_decide_eq_true hq3.2
      subst hv
      dsimp only at h
      split at h
      next a b ha hbv =>
        obtain ⟨j, hj⟩ := List.getElem?_of_mem (x_lk_in (ad := ad) ha)
        cases hbv
        exact lv_iinc hx hb hd1 hl hj rfl (Nat.le_of_ble_eq_true hq3.1) rfl (fun lsB hl => h H locs lsB hP hD hS (x_put1_has (ad := ad) hl))
      next => exact h.elim
    | iadd =>
      obtain ⟨rfl, hd1⟩ := x_fix (k := 1) hd hlen
      dsimp only at h
      split at h
      next b a r => exact lv_iadd hx hb hd1 (h H locs lsA hP hD hS hl)
      next => exact h.elim
    | isub =>
      obtain ⟨rfl, hd1⟩ := x_fix (k := 1) hd hlen
      dsimp only at h
      split at h
      next b a r => exact lv_isub hx hb hd1 (h H locs lsA hP hD hS hl)
      next => exact h.elim
    | iand =>
      obtain ⟨rfl, hd1⟩ := x_fix (k := 1) hd hlen
      dsimp only at h
      split at h
      next b a r => exact lv_iand hx hb hd1 (h H locs lsA hP hD hS hl)
      next => exact h.elim
    | ishr =>
      obtain ⟨rfl, hd1⟩ := x_fix (k := 1) hd hlen
      dsimp only at h
      split at h
      next b a r => exact lv_ishr hx hb hd1 (h H locs lsA hP hD hS hl)
      next => exact h.elim
    | ladd =>
      obtain ⟨rfl, hd1⟩ := x_fix (k := 1) hd hlen
      dsimp only at h
      split at h
      next b a r => exact lv_ladd hx hb hd1 (h H locs lsA hP hD hS hl)
      next => exact h.elim
    | lsub =>
      obtain ⟨rfl, hd1⟩ := x_fix (k := 1) hd hlen
      dsimp only at h
      split at h
      next b a r => exact lv_lsub hx hb hd1 (h H locs lsA hP hD hS hl)
      next => exact h.elim
    | lmul =>
      obtain ⟨rfl, hd1⟩ := x_fix (k := 1) hd hlen
      dsimp only at h
      split at h
      next b a r => exact lv_lmul hx hb hd1 (h H locs lsA hP hD hS hl)
      next => exact h.elim
    | land =>
      obtain ⟨rfl, hd1⟩ := x_fix (k := 1) hd hlen
      dsimp only at h
      split at h
      next b a r => exact lv_land hx hb hd1 (h H locs lsA hP hD hS hl)
      next => exact h.elim
    | lor =>
      obtain ⟨rfl, hd1⟩ := x_fix (k := 1) hd hlen
      dsimp only at h
      split at h
      next b a r => exact lv_lor hx hb hd1 (h H locs lsA hP hD hS hl)
      next => exact h.elim
    | dadd =>
      obtain ⟨rfl, hd1⟩ := x_fix (k := 1) hd hlen
      dsimp only at h
      split at h
      next b a r => exact lv_dadd hx hb hd1 h.1 (h.2 H locs lsA hP hD hS hl)
      next => exact h.elim
    | dmul =>
      obtain ⟨rfl, hd1⟩ := x_fix (k := 1) hd hlen
      dsimp only at h
      split at h
      next b a r => exact lv_dmul hx hb hd1 h.1 (h.2 H locs lsA hP hD hS hl)
      next => exact h.elim
    | ddiv =>
      obtain ⟨rfl, hd1⟩ := x_fix (k := 1) hd hlen
      dsimp only at h
      split at h
      next b a r => exact lv_ddiv hx hb hd1 h.1 (h.2 H locs lsA hP hD hS hl)
      next => exact h.elim
    | lneg =>
      obtain ⟨rfl, hd1⟩ := x_fix (k := 1) hd hlen
      dsimp only at h
      split at h
      next a r => exact lv_lneg hx hb hd1 (h H locs lsA hP hD hS hl)
      next => exact h.elim
    | i2l =>
      obtain ⟨rfl, hd1⟩ := x_fix (k := 1) hd hlen
      dsimp only at h
      split at h
      next a r => exact lv_i2l hx hb hd1 rfl (h H locs lsA hP hD hS hl)
      next => exact h.elim
    | i2b =>
      obtain ⟨rfl, hd1⟩ := x_fix (k := 1) hd hlen
      dsimp only at h
      split at h
      next a r => exact lv_i2b hx hb hd1 rfl (h H locs lsA hP hD hS hl)
      next => exact h.elim
    | i2s =>
      obtain ⟨rfl, hd1⟩ := x_fix (k := 1) hd hlen
      dsimp only at h
      split at h
      next a r => exact lv_i2s hx hb hd1 rfl (h H locs lsA hP hD hS hl)
      next => exact h.elim
    | i2c =>
      obtain ⟨rfl, hd1⟩ := x_fix (k := 1) hd hlen
      dsimp only at h
      split at h
      next a r => exact lv_i2c hx hb hd1 rfl (h H locs lsA hP hD hS hl)
      next => exact h.elim
    | l2i =>
      obtain ⟨rfl, hd1⟩ := x_fix (k := 1) hd hlen
      dsimp only at h
      split at h
      next a r => exact lv_l2i hx hb hd1 rfl (h H locs lsA hP hD hS hl)
      next => exact h.elim
    | l2f =>
      obtain ⟨rfl, hd1⟩ := x_fix (k := 1) hd hlen
      dsimp only at h
      split at h
      next a r => exact lv_l2f hx hb hd1 (h H locs lsA hP hD hS hl)
      next => exact h.elim
    | l2d =>
      obtain ⟨rfl, hd1⟩ := x_fix (k := 1) hd hlen
      dsimp only at h
      split at h
      next a r => exact lv_l2d hx hb hd1 (h H locs lsA hP hD hS hl)
      next => exact h.elim
    | d2l =>
      obtain ⟨rfl, hd1⟩ := x_fix (k := 1) hd hlen
      dsimp only at h
      split at h
      next a r => exact lv_d2l hx hb hd1 (h H locs lsA hP hD hS hl)
      next => exact h.elim
    | dneg =>
      obtain ⟨rfl, hd1⟩ := x_fix (k := 1) hd hlen
      dsimp only at h
      split at h
      next a r => exact lv_dneg hx hb hd1 (h H locs lsA hP hD hS hl)
      next => exact h.elim
    | idiv =>
      obtain ⟨rfl, hd1⟩ := x_fix (k := 1) hd hlen
      dsimp only at h
      split at h
      next b a r => exact lv_idiv hx hb hd1 h.1 (h.2 H locs lsA hP hD hS hl)
      next => exact h.elim
    | irem =>
      obtain ⟨rfl, hd1⟩ := x_fix (k := 1) hd hlen
      dsimp only at h
      split at h
      next b a r => exact lv_irem hx hb hd1 h.1 (h.2 H locs lsA hP hD hS hl)
      next => exact h.elim
    | ldiv =>
      obtain ⟨rfl, hd1⟩ := x_fix (k := 1) hd hlen
      dsimp only at h
      split at h
      next b a r => exact lv_ldiv hx hb hd1 h.1 (h.2 H locs lsA hP hD hS hl)
      next => exact h.elim
    | fadd =>
      obtain ⟨rfl, hd1⟩ := x_fix (k := 1) hd hlen
      dsimp only at h
      split at h
      next b a r => exact lv_fadd hx hb hd1 h.1 (h.2 H locs lsA hP hD hS hl)
      next => exact h.elim
    | f2d =>
      obtain ⟨rfl, hd1⟩ := x_fix (k := 1) hd hlen
      dsimp only at h
      split at h
      next a r => exact lv_f2d hx hb hd1 h.1 (h.2 H locs lsA hP hD hS hl)
      next => exact h.elim
    | d2f =>
      obtain ⟨rfl, hd1⟩ := x_fix (k := 1) hd hlen
      dsimp only at h
      split at h
      next a r => exact lv_d2f hx hb hd1 h.1 (h.2 H locs lsA hP hD hS hl)
      next => exact h.elim
    | lshl =>
      obtain ⟨rfl, hd1⟩ := x_fix (k := 1) hd hlen
      dsimp only at h
      split at h
      next b a r => exact lv_lshl hx hb hd1 rfl (h H locs lsA hP hD hS hl)
      next => exact h.elim
    | lcmp =>
      obtain ⟨rfl, hd1⟩ := x_fix (k := 1) hd hlen
      dsimp only at h
      split at h
      next b a r => exact W.lcmp hx hb hd1 (h H locs lsA hP hD hS hl)
      next => exact h.elim
    | f2l =>
      obtain ⟨rfl, hd1⟩ := x_fix (k := 1) hd hlen
      dsimp only at h
      split at h
      next a r => exact lv_f2l hx hb hd1 (h H locs lsA hP hD hS hl)
      next => exact h.elim
    | dcmp op =>
      obtain ⟨rfl, hd1⟩ := x_fix (k := 1) hd hlen
      dsimp only at h
      split at h
      next b a r => exact lv_dcmp hx hb hd1 (h H locs lsA hP hD hS hl)
      next => exact h.elim
    | dup =>
      obtain ⟨rfl, hd1⟩ := x_fix (k := 1) hd hlen
      dsimp only at h
      split at h
      next a r => exact lv_dup (va := .int a) hx hb hd1 rfl (h H locs lsA hP hD hS hl)
      next a r => exact lv_dup (va := .ref (ad a)) hx hb hd1 rfl (h H locs lsA hP hD hS hl)
      next => exact h.elim
    | dup2 =>
      obtain ⟨rfl, hd1⟩ := x_fix (k := 1) hd hlen
      dsimp only at h
      split at h
      next b a r => exact lv_dup2_11 (va := .int b) (vb := .ref (ad a)) hx hb hd1 rfl rfl (h H locs lsA hP hD hS hl)
      next => exact h.elim
    | pop =>
      obtain ⟨rfl, hd1⟩ := x_fix (k := 1) hd hlen
      dsimp only at h
      split at h
      next a r => exact lv_pop (va := .int a) hx hb hd1 rfl (h H locs lsA hP hD hS hl)
      next => exact h.elim
    | ifCond cn off =>
      obtain ⟨rfl, hd1⟩ := x_fix (k := 3) hd hlen
      dsimp only at h
      split at h
      next a r => exact x_br_go0 (w := w) (ls := ls) hx hb hd1 (of_decide_eq_true hq) (x_br_mono (fun z => z H locs lsA hP hD hS hl) (fun z => z H locs lsA hP hD hS hl) h)
      next => exact h.elim
    | if_icmp cn off =>
      obtain ⟨rfl, hd1⟩ := x_fix (k := 3) hd hlen
      dsimp only at h
      split at h
      next b a r => exact x_br_go (w := w) (ls := ls) hx hb hd1 (of_decide_eq_true hq) (x_br_mono (fun z => z H locs lsA hP hD hS hl) (fun z => z H locs lsA hP hD hS hl) h)
      next => exact h.elim
    | goto off =>
      obtain ⟨rfl, hd1⟩ := x_fix (k := 3) hd hlen
      exact lv_goto hx hb hd1 (of_decide_eq_true hq) (h H locs lsA hP hD hS hl)
    | tableswitch df lo hi offs =>
      dsimp only at h
      split at h
      next a r =>
        have hq1 := Bool.and_eq_true_iff.mp hq
        have hq2 := Bool.and_eq_true_iff.mp hq1.2
        have hq3 := Bool.and_eq_true_iff.mp hq2.2
        have hq4 := Bool.and_eq_true_iff.mp hq3.2
        have h0 := of_decide_eq_true hq1.1
        have hlo := of_decide_eq_true hq2.1
        have hhi := of_decide_eq_true hq3.1
        have hsz := of_decide_eq_true hq4.1
        have htb := of_decide_eq_true hq4.2
        have hln := x_tb_len htb
        by_cases ha : a.toInt < lo ∨ hi < a.toInt
        · have hk := x_sw_out h (fun q hq => by
            obtain ⟨j, hj⟩ := List.getElem?_of_mem hq
            obtain ⟨g1, g2, -⟩ := x_tb_at htb hj
            intro hz
            rw [hz, g1] at ha
            omega)
          exact lv_tableOut hx hb hd ha h0 (hk H locs lsA hP hD hS hl)
        · have hj : (a.toInt - lo).toNat < sw.length := by omega
          obtain ⟨q, hqq⟩ : ∃ q, sw[(a.toInt - lo).toNat]? = some q := ⟨_, List.getElem?_eq_getElem hj⟩
          obtain ⟨g1, g2, g3⟩ := x_tb_at htb hqq
          have hk := x_sw_in (c := q.1) (t := q.2) h ⟨_, hqq, fun i hi2 q2 hq2 => by
            obtain ⟨z1, z2, -⟩ := x_tb_at htb hq2
            intro hz
            rw [hz, z1] at ha hi2
            omega⟩ (Int32.toInt_inj.mp (by rw [g1]; omega))
          exact lv_tableIn hx hb hd (by omega) (by omega) (off := offs.toList.getD (a.toInt - lo).toNat 0) (by
            rw [← Array.getElem?_toList, List.getElem?_eq_getElem (by simpa using g2)]
            simp [List.getD, List.getElem?_eq_getElem (show (a.toInt - lo).toNat < offs.toList.length by simpa using g2)]) g3.symm (hk H locs lsA hP hD hS hl)
      next => exact h.elim
    | lookupswitch df ps =>
      dsimp only at h
      split at h
      next a r =>
        have hq1 := Bool.and_eq_true_iff.mp hq
        have hq2 := Bool.and_eq_true_iff.mp hq1.2
        have h0 := of_decide_eq_true hq1.1
        have htb := of_decide_eq_true hq2.2
        obtain ⟨t, ht, hk⟩ := x_lks ps.toList sw df htb h0 h
        exact lv_lookup hx hb hd hq2.1 rfl ht (hk H locs lsA hP hD hS hl)
      next => exact h.elim
    | getfield i =>
      obtain ⟨rfl, hd1⟩ := x_fix (k := 3) hd hlen
      dsimp only at h
      split at h
      next q r =>
        split at h
        next cN fs hw =>
          split at h
          next u hcx hu =>
            have hcx := Nat.eq_of_beq_eq_true hcx
            subst hcx
            have hv : (fs.map (x_rv ad))[y]? = some (x_rv ad u) := by rw [x_at_map, hu]; rfl
            rcases Bool.or_eq_true_iff.mp hq with hf | hf
            · obtain ⟨k, h1, h2, h3, h4⟩ := x_fls_ok _ (x_any hf)
              obtain ⟨kC, kT, kN⟩ := k
              exact va_get (ref := (kT y).1) hx hb hts h3 hown hK hP q (x_cw_at hw) h1 y h2 (hts _ h4) (fun _ z => z) hv hd1 (h H locs lsA hP hD hS hl)
            · obtain ⟨k, host, h1, h2, h3, h4⟩ := x_fns_ok _ (x_any hf)
              obtain ⟨kC, kT, kN⟩ := k
              exact va_getN (ref := (kT y).1) hx hb hts h3 hown hK hP q (x_cw_at hw) h1 y h2 (va_Nw.use (xNs_on _ h4) (hN _ h4)) (fun _ z => z) hv hd1 (h H locs lsA hP hD hS hl)
          next => exact h.elim
        next => exact h.elim
      next => exact h.elim
    | putfield i =>
      obtain ⟨rfl, hd1⟩ := x_fix (k := 3) hd hlen
      have hq2 := Bool.and_eq_true_iff.mp hq
      dsimp only at h
      split at h
      next u q r =>
        split at h
        next cN fs hw =>
          split at h
          next hcx hyl =>
            have hcx := Nat.eq_of_beq_eq_true hcx
            subst hcx
            obtain ⟨k, h1, h2, h3, h4⟩ := x_fls_ok _ (x_any hq2.1)
            obtain ⟨k2, g2, g1, g3, g4, g5, g6⟩ := x_pfs_ok _ (x_any hq2.2)
            obtain rfl : k = k2 := Option.some.inj (h1.symm.trans g1)
            obtain ⟨kC, kT, kN⟩ := k
            have hset : ∀ z : Value, (x_cw ad cT w).set q (ad q, .inr (cN, (fs.map (x_rv ad)).set y (x_rv ad z))) = x_cw ad cT (x_set w q (.inr (cN, x_set fs y z))) := fun z => by
              rw [x_set_map]
              exact x_cw_set ad cT w q (.inr (cN, x_set fs y z))
            split at h
            next a => exact va_put (ref := (kT y).1) hx hb hts h3 g2 g3 g4 hown hK hP hD hS q (x_cw_at hw) h1 y h2 (hts _ h4) (fun _ z => z) g5 g6 rfl rfl (by rw [List.length_map]; exact Nat.le_of_ble_eq_true hyl) hd1 (fun H1 locs1 hP hD hS => h H1 locs1 lsA (hset (.int a) ▸ hP) (hset (.int a) ▸ hD) hS hl)
            next a => exact va_put (ref := (kT y).1) hx hb hts h3 g2 g3 g4 hown hK hP hD hS q (x_cw_at hw) h1 y h2 (hts _ h4) (fun _ z => z) g5 g6 rfl rfl (by rw [List.length_map]; exact Nat.le_of_ble_eq_true hyl) hd1 (fun H1 locs1 hP hD hS => h H1 locs1 lsA (hset (.long a) ▸ hP) (hset (.long a) ▸ hD) hS hl)
            next a => exact va_put (ref := (kT y).1) hx hb hts h3 g2 g3 g4 hown hK hP hD hS q (x_cw_at hw) h1 y h2 (hts _ h4) (fun _ z => z) g5 g6 (by rcases h.1 with z | z <;> subst z <;> rfl) (by rcases h.1 with z | z <;> subst z <;> rfl) (by rw [List.length_map]; exact Nat.le_of_ble_eq_true hyl) hd1 (fun H1 locs1 hP hD hS => h.2 H1 locs1 lsA (hset (.int a) ▸ hP) (hset (.int a) ▸ hD) hS hl)
            next => exact h.elim
          next => exact h.elim
        next => exact h.elim
      next => exact h.elim
    | iaload =>
      obtain ⟨rfl, hd1⟩ := x_fix (k := 1) hd hlen
      dsimp only at h
      split at h
      next i q r =>
        split at h
        next n f hw => exact va_iald hx hb hK hP q 0 (x_cw_at hw) (x_tys0 cT) h.1 hd1 (h.2 H locs lsA hP hD hS hl)
        next => exact h.elim
      next => exact h.elim
    | baload =>
      obtain ⟨rfl, hd1⟩ := x_fix (k := 1) hd hlen
      dsimp only at h
      split at h
      next i q r =>
        split at h
        next n f hw => exact va_zald hx hb hK hP q 3 (x_cw_at hw) (x_tys3 cT) h.1 hd1 (h.2 H locs lsA hP hD hS hl)
        next => exact h.elim
      next => exact h.elim
    | laload =>
      obtain ⟨rfl, hd1⟩ := x_fix (k := 1) hd hlen
      dsimp only at h
      split at h
      next i q r =>
        split at h
        next n f hw => exact va_lald hx hb hK hP q 1 (x_cw_at hw) (x_tys1 cT) h.1 hd1 (h.2 H locs lsA hP hD hS hl)
        next => exact h.elim
      next => exact h.elim
    | daload =>
      obtain ⟨rfl, hd1⟩ := x_fix (k := 1) hd hlen
      dsimp only at h
      split at h
      next i q r =>
        split at h
        next n f hw => exact va_dald hx hb hK hP q 2 (x_cw_at hw) (x_tys2 cT) h.1 hd1 (h.2 H locs lsA hP hD hS hl)
        next => exact h.elim
      next => exact h.elim
    | iastore =>
      obtain ⟨rfl, hd1⟩ := x_fix (k := 1) hd hlen
      dsimp only at h
      split at h
      next a i q r =>
        split at h
        next n f hw =>
          have hset := x_cw_set ad cT w q (.inl (0, n, .inl (x_up f i.toNatClampNeg a)))
          exact va_iast hx hb hK hP hD hS q 0 (x_cw_at hw) (x_tys0 cT) h.1 hd1 (fun H1 locs1 hP hD hS => h.2 H1 locs1 lsA (hset ▸ hP) (hset ▸ hD) hS hl)
        next => exact h.elim
      next => exact h.elim
    | bastore =>
      obtain ⟨rfl, hd1⟩ := x_fix (k := 1) hd hlen
      dsimp only at h
      split at h
      next a i q r =>
        split at h
        next n f hw =>
          have hset := x_cw_set ad cT w q (.inl (3, n, .inl (x_up f i.toNatClampNeg (a &&& 1))))
          exact va_zast hx hb hK hP hD hS q 3 (x_cw_at hw) (x_tys3 cT) h.1 hd1 (fun H1 locs1 hP hD hS => h.2 H1 locs1 lsA (hset ▸ hP) (hset ▸ hD) hS hl)
        next => exact h.elim
      next => exact h.elim
    | lastore =>
      obtain ⟨rfl, hd1⟩ := x_fix (k := 1) hd hlen
      dsimp only at h
      split at h
      next a i q r =>
        split at h
        next n f hw =>
          have hset := x_cw_set ad cT w q (.inl (1, n, .inr (.inl (x_up f i.toNatClampNeg a))))
          exact va_last hx hb hK hP hD hS q 1 (x_cw_at hw) (x_tys1 cT) h.1 hd1 (fun H1 locs1 hP hD hS => h.2 H1 locs1 lsA (hset ▸ hP) (hset ▸ hD) hS hl)
        next => exact h.elim
      next => exact h.elim
    | dastore =>
      obtain ⟨rfl, hd1⟩ := x_fix (k := 1) hd hlen
      dsimp only at h
      split at h
      next a i q r =>
        split at h
        next n f hw =>
          have hset := x_cw_set ad cT w q (.inl (2, n, .inr (.inr (.inr (.inl (x_up f i.toNatClampNeg a))))))
          exact va_dast hx hb hK hP hD hS q 2 (x_cw_at hw) (x_tys2 cT) h.1 hd1 (fun H1 locs1 hP hD hS => h.2 H1 locs1 lsA (hset ▸ hP) (hset ▸ hD) hS hl)
        next => exact h.elim
      next => exact h.elim
    | invokevirtual i =>
      obtain ⟨rfl, hd1⟩ := x_fix (k := 3) hd hlen
      have hq2 := Bool.and_eq_true_iff.mp hq
      obtain ⟨row, hrow, hlink⟩ := x_mls_ok _ (x_any hq2.1)
      dsimp only at h
      split at h
      next as r htk =>
        split at h
        next hwd =>
          obtain ⟨⟨L2, nL2, rc, na, on2, y2, cc2, ret2, hrow2, hck, hwa⟩, hcon⟩ := hC _ _ _ _ h
          obtain rfl : row = (L2, nL2, rc, na, on2, y2, cc2, ret2) := Option.some.inj (hrow.symm.trans hrow2)
          obtain ⟨g1, g2, g3, g4, g5, g6, g7, -⟩ := x_row_gd hrow2
          have hrc : rc ≠ 99 := by
            intro z
            subst z
            have hst := hq2.2
            unfold x_st at hst
            rw [hrow2] at hst
            have hst : false = true := hst
            cases hst
          obtain ⟨q, r2, fs, rfl, hw, hna⟩ := x_ck_v hrc hck
          obtain ⟨zs, e1, e2, e3⟩ := x_take_eq _ _ _ _ _ htk
          rw [List.append_nil] at e1
          subst e1
          subst e3
          rcases g6 with ⟨z, -⟩ | ⟨-, i1, i2, i3⟩
          · exact absurd z hrc
          · obtain ⟨kq, hkq, hk1⟩ : ∃ kq : vw_C, vwCl[rc]? = some kq ∧ kq.1 = y2.cls := by
              cases hz : vwCl[rc]? with
              | none => rw [hz] at i3; cases i3
              | some kq => rw [hz] at i3; exact ⟨kq, rfl, Option.some.inj i3⟩
            have hM := hcon H.size _ _ _ _ _ _ _ _ hrow2
            have hap := x_apart hD hS hA
            have hGood : GoodIn xTs (wsV (xR on) i y2.cls y2 (Cond.code y2 cc2 nL2 ret2 :: xTs)) := by
              intro z hz
              refine x_goodIn z ?_
              unfold wsV at hz
              simp only [List.cons_append, List.nil_append, List.mem_cons] at hz
              rcases hz with rfl | rfl | rfl | rfl | rfl | hz
              · exact hlink
              · exact i1
              · exact i2
              · exact g4
              · exact g3
              · exact hz
            refine x_callr (va_runV (As := r2.map (x_rv ad)) (rest := r.map (x_rv ad)) (b := ad q) ⟨hx, hb, hml, hown, hts⟩ hM (cwV na hts hGood rfl rfl rfl ⟨rfl, g5⟩ ⟨Nat.le_refl _, by show 8 + (nL2 + 11) + 64 * d ≤ 64 * (d + 1); omega⟩) ⟨x_Pc_blind, ?_, fun U hU hW => ⟨rfl, by rw [hU], by rw [hU]; exact hP, va_K.moved hW.alike hK, hD.weaken (fun _ _ _ _ => trivial), fun c hc => xNs_warm hW c hc (hN c hc)⟩⟩ rfl (by rw [List.length_map]; exact hna) hl.1 ?_ (lv_room (by rw [x_wd_eq]; exact Nat.le_of_ble_eq_true hwd)) hd1 ⟨Nat.zero_le _, Nat.zero_le _⟩) hS (fun q _ z => hap q z) hap (fun o w1 t H1 locs1 ht hk hB hS1 => ?_)
            · have hrecv := va_recv hK hP hkq (x_cw_at (ad := ad) (cT := cT) hw)
              rw [hk1] at hrecv
              exact hrecv
            · show (List.map (x_rv ad) ((.ref q :: r2).reverse ++ r)) = _
              simp [x_rv]
            · have hkk := hk H1 locs1 lsA (by rw [← ht]; exact hB.1) (hB.2.2.1.weaken (fun _ _ _ z => hap _ z)) hS1 hl
              cases o with
              | none => exact hkk
              | some o => exact hkk
        next => exact h.elim
      next => exact h.elim
    | invokestatic i =>
      obtain ⟨rfl, hd1⟩ := x_fix (k := 3) hd hlen
      dsimp only at h
      split at h
      next hx9 =>
        rcases Bool.or_eq_true_iff.mp hq with hq2 | hq2
        · have hq3 := Bool.and_eq_true_iff.mp (Bool.and_eq_true_iff.mp hq2).2
          have hon := Nat.eq_of_beq_eq_true hq3.1
          have hi := Nat.eq_of_beq_eq_true hq3.2
          subst hon
          subst hi
          split at h
          next n dp q sp q2 r =>
            split at h
            next m1 f hqq hwd hw =>
              have hqq := Nat.eq_of_beq_eq_true hqq
              subst hqq
              have hset := x_cw_set ad cT w q (.inl (1, m1, .inr (.inl (va_cpy f f sp.toNatClampNeg dp.toNatClampNeg n.toNatClampNeg))))
              exact va_copyl hx hb (hml.trans hl.1.symm) hown (hts _ x_cp1) (hts _ x_cp2) (hts _ x_cp3) (hts _ x_cp4) hK hP hD hS q q 1 1 (x_cw_at hw) (x_cw_at hw) (x_tys1 cT) (x_tys1 cT) rfl h.1.1 h.1.2.1 h.1.2.2.1 h.1.2.2.2.1 h.1.2.2.2.2 (fun _ _ => rfl) (Nat.le_add_left _ _) (by rw [x_wd_eq]; have := Nat.le_of_ble_eq_true hwd; show _ + (7 + 11) ≤ 64 * (d + 1); omega) hd1 (fun H1 locs1 hP hD hS => h.2 H1 locs1 lsA (hset ▸ hP) (hset ▸ hD) hS hl)
            next m1 f hqq hwd hw =>
              have hqq := Nat.eq_of_beq_eq_true hqq
              subst hqq
              have hset := x_cw_set ad cT w q (.inl (2, m1, .inr (.inr (.inr (.inl (va_cpy f f sp.toNatClampNeg dp.toNatClampNeg n.toNatClampNeg))))))
              exact va_copyd hx hb (hml.trans hl.1.symm) hown (hts _ x_cp1) (hts _ x_cp2) (hts _ x_cp3) (hts _ x_cp4) hK hP hD hS q q 2 2 (x_cw_at hw) (x_cw_at hw) (x_tys2 cT) (x_tys2 cT) rfl h.1.1 h.1.2.1 h.1.2.2.1 h.1.2.2.2.1 h.1.2.2.2.2 (fun _ _ => rfl) (Nat.le_add_left _ _) (by rw [x_wd_eq]; have := Nat.le_of_ble_eq_true hwd; show _ + (7 + 11) ≤ 64 * (d + 1); omega) hd1 (fun H1 locs1 hP hD hS => h.2 H1 locs1 lsA (hset ▸ hP) (hset ▸ hD) hS hl)
            next => exact h.elim
          next => exact h.elim
        · have hz := (Bool.and_eq_true_iff.mp (Bool.and_eq_true_iff.mp hq2).1).1
          rw [hx9] at hz
          cases hz
      next hx9 =>
        rcases Bool.or_eq_true_iff.mp hq with hq2 | hq2
        · have hz := (Bool.and_eq_true_iff.mp hq2).1
          rw [hx9] at hz
          cases hz
        · have hq3 := Bool.and_eq_true_iff.mp hq2
          split at h
          next as r htk =>
            split at h
            next hwd =>
              obtain ⟨⟨L2, nL2, rc, na, on2, y2, cc2, ret2, hrow2, hck, hwa⟩, hcon⟩ := hC _ _ _ _ h
              obtain ⟨g1, g2, g3, g4, g5, g6, g7, -⟩ := x_row_gd hrow2
              have hrc : rc = 99 := by
                have hst := hq3.2
                unfold x_st at hst
                rw [hrow2] at hst
                exact Nat.eq_of_beq_eq_true hst
              subst hrc
              have hna := x_ck_s hck
              obtain ⟨zs, e1, e2, e3⟩ := x_take_eq _ _ _ _ _ htk
              rw [List.append_nil] at e1
              subst e1
              subst e3
              rcases g6 with ⟨-, i1⟩ | ⟨z, -⟩
              · have hM := hcon H.size _ _ _ _ _ _ _ _ hrow2
                have hap := x_apart hD hS hA
                have hpre : PreS s H (x_Pc D ad cT as w H.size) (as.map (x_rv ad)) := ⟨x_Pc_blind, fun U hU hW => ⟨rfl, by rw [hU], by rw [hU]; exact hP, va_K.moved hW.alike hK, hD.weaken (fun _ _ _ _ => trivial), fun c hc => xNs_warm hW c hc (hN c hc)⟩⟩
                have hroom : (x_rm d).frames + 1 ≤ (x_rm (d + 1)).frames ∧ 8 + (nL2 + 11) + (x_rm d).locals ≤ (x_rm (d + 1)).locals := ⟨Nat.le_refl _, by show 8 + (nL2 + 11) + 64 * d ≤ 64 * (d + 1); omega⟩
                have hstk : (F0 m pc lsA (List.map (x_rv ad) (as.reverse ++ r))).stack = (as.map (x_rv ad)).reverse ++ r.map (x_rv ad) := by
                  show List.map (x_rv ad) (as.reverse ++ r) = _
                  simp
                have hgo : ∀ (o : Option Value) (w1 : xW) (t : State) (H1 : Heap) (locs1 : List Loc), t.heap = H1 → x_G p l e (x_rm (d + 1)) s m args below meth c D ad cT A Q nL (pc + 3) ls (o.toList ++ r) w1 → x_B D ad cT (va_A (x_cw ad cT w) H.size) w1 t → va_S A s.heap H1 locs1 → W p l e (x_rm (d + 1)) s m args below meth c H1 locs1 0 0 (MQ below (x_Qc D ad cT A Q) args s 0 0 A) (F0 m (pc + 3) lsA ((o.map (x_rv ad)).toList ++ r.map (x_rv ad))) := by
                  intro o w1 t H1 locs1 ht hk hB hS1
                  have hkk := hk H1 locs1 lsA (by rw [← ht]; exact hB.1) (hB.2.2.1.weaken (fun _ _ _ z => hap _ z)) hS1 hl
                  cases o with
                  | none => exact hkk
                  | some o => exact hkk
                rcases Bool.or_eq_true_iff.mp (Bool.and_eq_true_iff.mp hq3.1).2 with hf | hf
                · obtain ⟨row, hrow, hlink⟩ := x_mls_ok _ (x_any hf)
                  obtain rfl : row = (L2, nL2, 99, na, on2, y2, cc2, ret2) := Option.some.inj (hrow.symm.trans hrow2)
                  have hGood : GoodIn xTs (va_wsS (xR on) i y2 (Cond.code y2 cc2 nL2 ret2 :: xTs)) := by
                    intro z hz
                    refine x_goodIn z ?_
                    unfold va_wsS at hz
                    simp only [List.cons_append, List.nil_append, List.mem_cons] at hz
                    rcases hz with rfl | rfl | rfl | rfl | hz
                    · exact hlink
                    · exact i1
                    · exact g4
                    · exact g3
                    · exact hz
                  exact x_callr (va_runS (As := as.map (x_rv ad)) (rest := r.map (x_rv ad)) ⟨hx, hb, hml, hown, hts⟩ hM (va_cwS na hts hGood rfl rfl rfl g5 hroom) hpre rfl (by rw [List.length_map]; exact hna) hl.1 hstk (lv_room (by rw [x_wd_eq]; exact Nat.le_of_ble_eq_true hwd)) hd1 ⟨Nat.zero_le _, Nat.zero_le _⟩) hS (fun q _ z => hap q z) hap hgo
                · obtain ⟨row, host, hrow, hlink⟩ := x_mns_ok _ (x_any hf)
                  obtain rfl : row = (L2, nL2, 99, na, on2, y2, cc2, ret2) := Option.some.inj (hrow.symm.trans hrow2)
                  have hGood : GoodIn xTs (Cond.code y2 cc2 nL2 ret2 :: xTs) := by
                    intro z hz
                    refine x_goodIn z ?_
                    rcases List.mem_cons.mp hz with rfl | hz
                    · exact g3
                    · exact hz
                  exact x_callr (va_runSN (As := as.map (x_rv ad)) (rest := r.map (x_rv ad)) ⟨hx, hb, hml, hown, hts⟩ hM ⟨va_cnB na hts hGood rfl rfl rfl (hN _ hlink) (hts _ g4) g5 hroom, hts _ i1, trivial⟩ hpre rfl (by rw [List.length_map]; exact hna) hl.1 hstk (lv_room (by rw [x_wd_eq]; exact Nat.le_of_ble_eq_true hwd)) hd1 ⟨Nat.zero_le _, Nat.zero_le _⟩) hS (fun q _ z => hap q z) hap hgo
              · exact absurd rfl z
            next => exact h.elim
          next => exact h.elim
    | ireturn =>
      obtain ⟨rfl, hd1⟩ := x_fix (k := 1) hd hlen
      have hq : (Nat.beq y 0 && decide (ret = some .int) || Nat.beq y 1 && decide (ret = some .boolean)) = true := hq
      simp only [Bool.or_eq_true, Bool.and_eq_true, decide_eq_true_eq] at hq
      dsimp only at h
      split at h
      next a =>
        rcases hq with ⟨h1, h2⟩ | ⟨h1, h2⟩
        · have hy := Nat.eq_of_beq_eq_true h1
          subst hy
          exact W.iret hx hb (hr.trans h2) (x_ret (r := some (.int a)) hP hD hS hK hN h) hS.2.2 hd1 hlk
        · have hy := Nat.eq_of_beq_eq_true h1
          subst hy
          exact W.zret hx hb (hr.trans h2) (by rcases h.1 with z | z <;> subst z <;> rfl) (x_ret (r := some (.int a)) hP hD hS hK hN h.2) hS.2.2 hd1 hlk
      next => exact h.elim
    | lreturn =>
      obtain ⟨rfl, hd1⟩ := x_fix (k := 1) hd hlen
      dsimp only at h
      split at h
      next a => exact W.lret hx hb (hr.trans (of_decide_eq_true hq)) (x_ret (r := some (.long a)) hP hD hS hK hN h) hS.2.2 hd1 hlk
      next => exact h.elim
    | dreturn =>
      obtain ⟨rfl, hd1⟩ := x_fix (k := 1) hd hlen
      dsimp only at h
      split at h
      next a => exact W.dret hx hb (hr.trans (of_decide_eq_true hq)) (x_ret (r := some (.double a)) hP hD hS hK hN h) hS.2.2 hd1 hlk
      next => exact h.elim
    | return_ =>
      obtain ⟨rfl, hd1⟩ := x_fix (k := 1) hd hlen
      dsimp only at h
      split at h
      next => exact W.vret hx hb (hr.trans (of_decide_eq_true hq)) (x_ret (r := none) hP hD hS hK hN h) hS.2.2 hd1 hlk
      next => exact h.elim
    | _ => exact h.elim
