/-! WHAT THE SMALL MACHINE SAYS HOLDS OF THE MACHINE -/
def x_rv (ad : Nat → Nat) (v : Value) : Value := match v with
  | .ref k => .ref (ad k)
  | u => u
def x_ce (ad : Nat → Nat) (cT : Nat → ClassId) (e : xE) : va_E := match e with
  | .inl (t, a) => .inl (cT t, a)
  | .inr (c, fs) => .inr (c, fs.map (x_rv ad))
def x_cwo (ad : Nat → Nat) (cT : Nat → ClassId) : Nat → xW → va_W
  | _, [] => []
  | k, e :: w => (ad k, x_ce ad cT e) :: x_cwo ad cT (k + 1) w
def x_cw (ad : Nat → Nat) (cT : Nat → ClassId) (w : xW) : va_W := x_cwo ad cT 0 w
theorem x_cwo_at (ad : Nat → Nat) (cT : Nat → ClassId) : ∀ (w : xW) (k j : Nat), (x_cwo ad cT k w)[j]? = (x_at w j).map (fun e => (ad (k + j), x_ce ad cT e))
  | [], _, _ => by simp [x_cwo, x_at]
  | e :: w, k, 0 => by simp [x_cwo, x_at]
  | e :: w, k, j + 1 => by
    simp only [x_cwo, x_at, List.getElem?_cons_succ]
    rw [x_cwo_at ad cT w (k + 1) j, show k + 1 + j = k + (j + 1) by omega]
theorem x_cw_at {ad : Nat → Nat} {cT : Nat → ClassId} {w : xW} {q : Nat} {e : xE} (h : x_at w q = some e) : (x_cw ad cT w)[q]? = some (ad q, x_ce ad cT e) := by
  unfold x_cw
  rw [x_cwo_at, h, Nat.zero_add]
  rfl
theorem x_cwo_set (ad : Nat → Nat) (cT : Nat → ClassId) : ∀ (w : xW) (k j : Nat) (e : xE), (x_cwo ad cT k w).set j (ad (k + j), x_ce ad cT e) = x_cwo ad cT k (x_set w j e)
  | [], _, _, _ => by simp [x_cwo, x_set]
  | _ :: w, k, 0, e => by simp [x_cwo, x_set]
  | _ :: w, k, j + 1, e => by
    simp only [x_cwo, x_set, List.set_cons_succ]
    rw [← x_cwo_set ad cT w (k + 1) j e, show k + 1 + j = k + (j + 1) by omega]
theorem x_cw_set (ad : Nat → Nat) (cT : Nat → ClassId) (w : xW) (q : Nat) (e : xE) : (x_cw ad cT w).set q (ad q, x_ce ad cT e) = x_cw ad cT (x_set w q e) := by
  have h := x_cwo_set ad cT w 0 q e
  rw [Nat.zero_add] at h
  exact h
theorem x_at_list {α : Type} : ∀ (l : List α) (n : Nat), l[n]? = x_at l n
  | [], _ => by simp [x_at]
  | _ :: _, 0 => by simp [x_at]
  | _ :: w, n + 1 => by simp [x_at, x_at_list w n]
theorem x_at_map {α β : Type} (f : α → β) : ∀ (l : List α) (n : Nat), (l.map f)[n]? = (x_at l n).map f
  | [], _ => by simp [x_at]
  | _ :: _, 0 => by simp [x_at]
  | _ :: w, n + 1 => by simp [x_at, x_at_list w n]
theorem x_set_map {α β : Type} (f : α → β) : ∀ (l : List α) (n : Nat) (v : α), (l.map f).set n (f v) = (x_set l n v).map f
  | [], _, _ => by simp [x_set]
  | _ :: _, 0, _ => by simp [x_set]
  | _ :: w, n + 1, v => by simp [x_set, x_set_map f w n v]
def x_ml (ad : Nat → Nat) (ls : List (Nat × Value)) : List (Nat × Value) := ls.map (fun q => (q.1, x_rv ad q.2))
theorem x_lk_mem {v : Value} {i : Nat} : ∀ {ls : List (Nat × Value)}, x_lk ls i = some v → (i, v) ∈ ls
  | (j, u) :: r, h => by
    unfold x_lk at h
    cases hb : Nat.beq j i with
    | true =>
      rw [hb] at h
      have hj : j = i := Nat.eq_of_beq_eq_true hb
      subst hj
      cases h
      exact List.mem_cons_self
    | false =>
      rw [hb] at h
      exact List.mem_cons_of_mem _ (x_lk_mem h)
theorem x_lk_in {ad : Nat → Nat} {v : Value} {i : Nat} {ls : List (Nat × Value)} (h : x_lk ls i = some v) : (i, x_rv ad v) ∈ x_ml ad ls := List.mem_map.mpr ⟨(i, v), x_lk_mem h, rfl⟩
theorem x_lk_has {ad : Nat → Nat} {v : Value} {i nL : Nat} {ls : List (Nat × Value)} {lsA : Array Slot} (h : x_lk ls i = some v) (hl : lv_has lsA nL (x_ml ad ls)) : lsA[i]? = some (.val (x_rv ad v)) := hl.2.2 _ (x_lk_in h)
theorem x_cat (ad : Nat → Nat) (v : Value) : ((x_rv ad v).category == 2) = x_c2 v := by cases v <;> rfl
theorem x_beq (a b : Nat) : Nat.beq a b = (a == b) := by
  cases h : Nat.beq a b with
  | true =>
    have h1 := Nat.eq_of_beq_eq_true h
    subst h1
    simp
  | false =>
    have h1 := Nat.ne_of_beq_eq_false h
    simp [h1]
theorem x_rm1_mem {i : Nat} : ∀ {ls : List (Nat × Value)} {q : Nat × Value}, q ∈ x_rm1 ls i → q ∈ ls ∧ (!(q.1 == i) && !(q.1 + 1 == i && x_c2 q.2)) = true
  | [], _, h => by simp [x_rm1] at h
  | (j, v) :: r, q, h => by
    unfold x_rm1 at h
    rw [x_beq, x_beq] at h
    cases hb : (j == i) <;> cases hc : (j + 1 == i && x_c2 v) <;> simp only [hb, hc, Bool.or_false, Bool.false_or, Bool.true_or, Bool.or_true, cond_true, cond_false] at h
    · rcases List.mem_cons.mp h with rfl | h
      · exact ⟨List.mem_cons_self, by simp only [hb, hc]; rfl⟩
      · exact ⟨List.mem_cons_of_mem _ (x_rm1_mem h).1, (x_rm1_mem h).2⟩
    all_goals exact ⟨List.mem_cons_of_mem _ (x_rm1_mem h).1, (x_rm1_mem h).2⟩
theorem x_rm2_mem {i : Nat} : ∀ {ls : List (Nat × Value)} {q : Nat × Value}, q ∈ x_rm2 ls i → q ∈ ls ∧ (!(q.1 == i) && (!(q.1 == i + 1) && !(q.1 + 1 == i && x_c2 q.2))) = true
  | [], _, h => by simp [x_rm2] at h
  | (j, v) :: r, q, h => by
    unfold x_rm2 at h
    rw [x_beq, x_beq, x_beq] at h
    cases hb : (j == i) <;> cases hb2 : (j == i + 1) <;> cases hc : (j + 1 == i && x_c2 v) <;> simp only [hb, hb2, hc, Bool.or_false, Bool.false_or, Bool.true_or, Bool.or_true, cond_true, cond_false] at h
    · rcases List.mem_cons.mp h with rfl | h
      · exact ⟨List.mem_cons_self, by simp only [hb, hb2, hc]; rfl⟩
      · exact ⟨List.mem_cons_of_mem _ (x_rm2_mem h).1, (x_rm2_mem h).2⟩
    all_goals exact ⟨List.mem_cons_of_mem _ (x_rm2_mem h).1, (x_rm2_mem h).2⟩
theorem x_put1_mem {i : Nat} {v : Value} : ∀ {ls : List (Nat × Value)} {q : Nat × Value}, q ∈ x_put1 ls i v → q = (i, v) ∨ (q ∈ ls ∧ (!(q.1 == i) && !(q.1 + 1 == i && x_c2 q.2)) = true)
  | [], q, h => by simp [x_put1] at h; exact Or.inl h
  | (j, u) :: r, q, h => by
    unfold x_put1 at h
    rw [x_beq, x_beq] at h
    cases hb : (j == i)
    · cases hc : (j + 1 == i && x_c2 u) <;> simp only [hb, hc, cond_true, cond_false] at h
      · rcases List.mem_cons.mp h with rfl | h
        · exact Or.inr ⟨List.mem_cons_self, by simp only [hb, hc]; rfl⟩
        · rcases x_put1_mem h with z | z
          · exact Or.inl z
          · exact Or.inr ⟨List.mem_cons_of_mem _ z.1, z.2⟩
      · rcases x_put1_mem h with z | z
        · exact Or.inl z
        · exact Or.inr ⟨List.mem_cons_of_mem _ z.1, z.2⟩
    · simp only [hb, cond_true] at h
      rcases List.mem_cons.mp h with rfl | h
      · exact Or.inl rfl
      · exact Or.inr ⟨List.mem_cons_of_mem _ (x_rm1_mem h).1, (x_rm1_mem h).2⟩
theorem x_put2_mem {i : Nat} {v : Value} : ∀ {ls : List (Nat × Value)} {q : Nat × Value}, q ∈ x_put2 ls i v → q = (i, v) ∨ (q ∈ ls ∧ (!(q.1 == i) && (!(q.1 == i + 1) && !(q.1 + 1 == i && x_c2 q.2))) = true)
  | [], q, h => by simp [x_put2] at h; exact Or.inl h
  | (j, u) :: r, q, h => by
    unfold x_put2 at h
    rw [x_beq, x_beq, x_beq] at h
    cases hb : (j == i)
    · cases hb2 : (j == i + 1) <;> cases hc : (j + 1 == i && x_c2 u) <;> simp only [hb, hb2, hc, Bool.or_false, Bool.false_or, Bool.true_or, Bool.or_true, cond_true, cond_false] at h
      · rcases List.mem_cons.mp h with rfl | h
        · exact Or.inr ⟨List.mem_cons_self, by simp only [hb, hb2, hc]; rfl⟩
        · rcases x_put2_mem h with z | z
          · exact Or.inl z
          · exact Or.inr ⟨List.mem_cons_of_mem _ z.1, z.2⟩
      all_goals
        rcases x_put2_mem h with z | z
        · exact Or.inl z
        · exact Or.inr ⟨List.mem_cons_of_mem _ z.1, z.2⟩
    · simp only [hb, cond_true] at h
      rcases List.mem_cons.mp h with rfl | h
      · exact Or.inl rfl
      · exact Or.inr ⟨List.mem_cons_of_mem _ (x_rm2_mem h).1, (x_rm2_mem h).2⟩
theorem x_put1_has {ad : Nat → Nat} {i nL : Nat} {v : Value} {ls : List (Nat × Value)} {lsB : Array Slot} (h : lv_has lsB nL ((i, x_rv ad v) :: (x_ml ad ls).filter (fun q => !(q.1 == i) && !(q.1 + 1 == i && q.2.category == 2)))) : lv_has lsB nL (x_ml ad (x_put1 ls i v)) := by
  refine ⟨h.1, h.2.1, fun q hq => ?_⟩
  obtain ⟨z, hz, rfl⟩ := List.mem_map.mp hq
  rcases x_put1_mem hz with rfl | ⟨h1, h2⟩
  · exact h.2.2 _ List.mem_cons_self
  · exact h.2.2 _ (List.mem_cons_of_mem _ (List.mem_filter.mpr ⟨List.mem_map.mpr ⟨z, h1, rfl⟩, by simp only [x_cat]; exact h2⟩))
theorem x_put2_has {ad : Nat → Nat} {i nL : Nat} {v : Value} {ls : List (Nat × Value)} {lsB : Array Slot} (h : lv_has lsB nL ((i, x_rv ad v) :: (x_ml ad ls).filter (fun q => !(q.1 == i) && (!(q.1 == i + 1) && !(q.1 + 1 == i && q.2.category == 2))))) : lv_has lsB nL (x_ml ad (x_put2 ls i v)) := by
  refine ⟨h.1, h.2.1, fun q hq => ?_⟩
  obtain ⟨z, hz, rfl⟩ := List.mem_map.mp hq
  rcases x_put2_mem hz with rfl | ⟨h1, h2⟩
  · exact h.2.2 _ List.mem_cons_self
  · exact h.2.2 _ (List.mem_cons_of_mem _ (List.mem_filter.mpr ⟨List.mem_map.mpr ⟨z, h1, rfl⟩, by simp only [x_cat]; exact h2⟩))
theorem x_wd_eq (ad : Nat → Nat) : ∀ st : List Value, ((st.map (x_rv ad)).map fun v => v.category).sum = x_wd st
  | [] => rfl
  | v :: r => by
    simp only [List.map_cons, List.sum_cons, x_wd, x_wd_eq ad r]
    cases v <;> rfl
theorem x_sl_eq (ad : Nat → Nat) : ∀ as : List Value, (lg_sl (as.map (x_rv ad))).length = x_wd as
  | [] => rfl
  | v :: r => by
    have ih := x_sl_eq ad r
    unfold lg_sl at ih ⊢
    simp only [List.map_cons, List.flatMap_cons, List.length_append, x_wd, ih]
    cases v <;> simp [x_rv, Value.category, x_c2]
theorem x_args_eq (ad : Nat → Nat) : ∀ (as : List Value) (i : Nat), lv_args i (as.map (x_rv ad)) = x_ml ad (lv_args i as)
  | [], _ => rfl
  | v :: r, i => by
    have e : (x_rv ad v).category = v.category := by cases v <;> rfl
    simp only [List.map_cons, lv_args, x_ml, e]
    rw [x_args_eq ad r]
    rfl
theorem x_take_eq : ∀ (n : Nat) (acc st as r : List Value), x_take n acc st = some (as, r) → ∃ zs : List Value, as = zs ++ acc ∧ zs.length = n ∧ st = zs.reverse ++ r
  | 0, acc, st, as, r, h => by
    simp only [x_take, Option.some.injEq, Prod.mk.injEq] at h
    exact ⟨[], by simp [h.1], rfl, by simp [h.2]⟩
  | n + 1, acc, [], as, r, h => by simp [x_take] at h
  | n + 1, acc, v :: st, as, r, h => by
    simp only [x_take] at h
    obtain ⟨zs, h1, h2, h3⟩ := x_take_eq n (v :: acc) st as r h
    exact ⟨zs ++ [v], by simp [h1], by simp [h2], by simp [h3]⟩
def x_tys (cT : Nat → ClassId) : List (ClassId × FieldType) := [(cT 0, .int), (cT 1, .long), (cT 2, .double), (cT 3, .boolean)]
/-- the world w stands in the state t -/
def x_B (D : va_G) (ad : Nat → Nat) (cT : Nat → ClassId) (A : Nat → Prop) (w : xW) (t : State) : Prop := va_P D vwCl (x_cw ad cT w) t.heap ∧ va_K D vwCl (x_tys cT) t ∧ va_D A (x_cw ad cT w) ∧ ∀ c ∈ xNs, va_Nw c t
def x_Pc (D : va_G) (ad : Nat → Nat) (cT : Nat → ClassId) (as : List Value) (w : xW) (sz : Nat) : Array Value → State → Prop := va_Pc (as.map (x_rv ad)) (fun U => U.heap.size = sz ∧ x_B D ad cT (fun _ => True) w U)
def x_Qc (D : va_G) (ad : Nat → Nat) (cT : Nat → ClassId) (A : Nat → Prop) (Q : xQ) : Array Value → State → Outcome → State → Prop := fun _ st oc t => (∃ (r : Option Value) (w : xW), oc = .returned (r.map (x_rv ad)) ∧ Q r w ∧ x_B D ad cT A w t) ∧ va_F A st t
def x_rm (d : Nat) : Room := { frames := d, cells := 0, slots := 0, locals := 64 * d }
theorem xNs_on : ∀ c ∈ xNs, c.onTables = true := by
  unfold xNs
  repeat' first | exact List.forall_mem_nil _ | refine List.forall_mem_cons.mpr ⟨rfl, ?_⟩
theorem xNs_warm {s U : State} (hW : s.WarmedH U.vm) : ∀ c ∈ xNs, va_Nw c s → va_Nw c U := by
  unfold xNs
  repeat' first | exact List.forall_mem_nil _ | refine List.forall_mem_cons.mpr ⟨fun h => va_Nw.warmF hW h, ?_⟩ | refine List.forall_mem_cons.mpr ⟨fun h => va_Nw.warmM hW h, ?_⟩
theorem x_Pc_blind {D : va_G} {ad : Nat → Nat} {cT : Nat → ClassId} {as : List Value} {w : xW} {sz : Nat} : FrameBlind (x_Pc D ad cT as w sz) := by
  intro a U g mk q
  obtain ⟨q0, q1, qP, qK, qD, qN⟩ := q
  exact ⟨q0, q1, qP, va_K.moved (u := U) (U := U.calling g mk a) (Vm.Alike.refl U.vm) qK, qD, fun c hc => va_Nw.same (u := U) (xNs_on c hc) rfl (qN c hc)⟩
section XCALL
variable {p : Program} {l : Launch} {e : Env} {R : Room} {s : State} {m : MethodId} {args : Array Value} {below : List Frame} {meth : Method} {c : Code} {H : Heap} {locs : List Loc} {Q : State → Prop}
variable {pc : Nat} {ls : Array Slot} {rest st0 : List Value} {a : Array Value} {A0 A1 : Nat → Prop} {H0 : Heap} {free : Addr → Prop}
theorem x_callr {D : va_G} {ad : Nat → Nat} {cT : Nat → ClassId} {Q1 : xQ} (hr : va_Run p l e R s m args below meth c H locs 0 0 0 0 (F0 m pc ls st0) rest (x_Qc D ad cT A1 Q1 a) free) (hS : va_S A0 H0 H locs) (hA : ∀ q, q < H.size → A1 q → A0 q) (hf : ∀ q, free q → A0 q)
    (kk : ∀ (r : Option Value) (w : xW) (t : State) (H1 : Heap) (locs1 : List Loc), t.heap = H1 → Q1 r w → x_B D ad cT A1 w t → va_S A0 H0 H1 locs1 → W p l e R s m args below meth c H1 locs1 0 0 Q (F0 m (pc + 3) ls ((r.map (x_rv ad)).toList ++ rest))) : W p l e R s m args below meth c H locs 0 0 Q (F0 m pc ls st0) := by
  intro T hT X
  obtain ⟨v, st₀, t, T', L, h0, X', hL, e1, e2, ⟨⟨r, u, hv, hp, hb⟩, hz, hk⟩, st⟩ := hr T hT X
  cases hv
  rw [h0] at hz hk
  obtain ⟨t2, a1, b1⟩ := kk r u t T'.heap (locs ++ L) e1.symm hp hb
    ⟨Nat.le_trans hS.1 (by rw [e1]; exact hz), fun q h1 h2 => by rw [e1, hk q (Nat.lt_of_lt_of_le h1 hS.1) (fun z => h2 (hA q (Nat.lt_of_lt_of_le h1 hS.1) z))]; exact hS.2.1 q h1 h2, fun q hq => by
      rcases List.mem_append.mp hq with h | h
      · exact hS.2.2 q h
      · exact hf _ (hL q h)⟩ T' rfl X'
  exact ⟨t2, st t2 a1, b1⟩
end XCALL
theorem Cd.ck {d M : Nat} {as : List Value} {w : xW} {Q : xQ} (h : Cd d M as w Q) : ∃ (L : xL) (nL rc na on : Nat) (y : MethodName) (cc : ByteArray) (ret : Option FieldType), x_row M = some (L, nL, rc, na, on, y, cc, ret) ∧ x_ck rc na as w = true ∧ x_wd as ≤ nL := by
  cases d with
  | zero => exact h.elim
  | succ d =>
    unfold Cd at h
    split at h
    next L nL rc na z hrow =>
      obtain ⟨on, y, cc, ret⟩ := z
      split at h
      next h1 h2 => exact ⟨L, nL, rc, na, on, y, cc, ret, hrow, h1, Nat.le_of_ble_eq_true h2⟩
      next => exact h.elim
    next => exact h.elim
/-- what a judgement of calls must give: of each call a contract -/
def x_Con (l : Launch) (D : va_G) (ad : Nat → Nat) (cT : Nat → ClassId) (d : Nat) (M : Nat) (as : List Value) (w : xW) (Q : xQ) : Prop :=
  ∀ (sz : Nat) (L : xL) (nL rc na on : Nat) (y : MethodName) (cc : ByteArray) (ret : Option FieldType), x_row M = some (L, nL, rc, na, on, y, cc, ret) → Met l y (Cond.code y cc nL ret :: xTs) (x_rm d) (x_Pc D ad cT as w sz) (x_Qc D ad cT (va_A (x_cw ad cT w) sz) Q) 0 0 (va_A (x_cw ad cT w) sz)
