/-! THE LAW'S LOOP -/
section LOOP
variable {p : Program} {l : Launch} {e : Env} {s : State} {m : MethodId} {below : List Frame} {meth : Method} {c : Code} {b L : Nat} {xs : Nat → Int32} {D : va_G} {cT : Nat → ClassId} {adC adM : Nat → Nat}
set_option maxHeartbeats 4000000 in
set_option maxRecDepth 100000 in
theorem law_loop (lx : LX p s m c b L xs D cT) (hr : meth.sig.returnType = ret) (hlocks : meth.locks = false) (hL : L ≤ 3072) : ∀ (n j : Nat) (κ : Int) (P : SP) (S : SS) (mm : MS) (H : Heap) (locs : List Loc) (ls : Array Slot), L + 1 ≤ 6 * j + 6 * n → 6 * j ≤ L → LI κ P S mm → κ ≤ 1 + 3000 * j → va_P D vwCl (x_cw adC cT (wC P S) ++ x_cw adM cT (wM P S mm)) H → va_D (fun q : Nat => s.heap.size ≤ q) (x_cw adC cT (wC P S) ++ x_cw adM cT (wM P S mm)) → va_S (fun q : Nat => s.heap.size ≤ q) s.heap H locs → lv_has ls 4 [(0, .ref b), (1, .ref (adC 0)), (2, .ref (adM 0)), (3, .int (nI (6 * j)))] → W p l e room_1 s m #[Value.ref b] below meth c H locs 60 60000 (lw_Z below #[Value.ref b] s) (F0 m 18 ls []) := by
  intro n
  induction n with
  | zero => intro j κ P S mm H locs ls h1 h2; omega
  | succ n ih =>
    intro j κ P S mm H locs ls h1 h2 hI hκ hP hD hS hl
    have lx0 := lx
    obtain ⟨hx, hb, hml, hown, hts, hX, hbl, hK, hN⟩ := lx0
    have hbA : ¬ (fun q : Nat => s.heap.size ≤ q) b := Nat.not_le.mpr hbl
    refine lv_iload_n hx hb dL_law_18 rfl (lv_at hl 3 rfl) ?_
    refine lv_aload_n hx hb dL_law_19 rfl (lv_at hl 0 rfl) ?_
    refine va_slen hx hb hX hbl hbA hS dL_law_20 ?_
    refine lv_bipush (v := nI 6) hx hb dL_law_21 (by decide +kernel) ?_
    refine lv_isub hx hb dL_law_23 ?_
    have hy : (nI L - nI 6).toInt = (L : Int) - 6 := pk_sub_toInt (by omega) (by omega)
    refine lv_icmp_gt (tgt := 493) hx hb dL_law_24 (by decide) (fun _ => ?_) (fun hc => ?_)
    · refine lv_iconst (v := 1) hx hb dL_law_493 (by decide) ?_
      refine va_forget hS.2.2 ?_
      refine W.widen (k := 600000) (n := 7302250) (Nat.le_of_ble_eq_true rfl) (Nat.le_of_ble_eq_true rfl) ?_
      refine W.base ?_
      exact lw_ret (Drawn.sameBut.refl s.drawn lw_cs) hx hb hr hlocks dL_law_494
    · have hj : 6 * j + 6 ≤ L := by
        have hc2 : ¬ (nI L - nI 6).toInt < (nI (6 * j)).toInt := fun z => hc (Int32.lt_iff_toInt_lt.mpr z)
        rw [hy, nI_toInt (by omega)] at hc2
        omega
      have hκ2 : κ ≤ gB := by unfold gB; omega
      have nx : ∀ κ' P' S' mm' (H : Heap) (locs : List Loc), LI κ' P' S' mm' → κ' ≤ κ + 3000 → va_P D vwCl (x_cw adC cT (wC P' S') ++ x_cw adM cT (wM P' S' mm')) H → va_D (fun q : Nat => s.heap.size ≤ q) (x_cw adC cT (wC P' S') ++ x_cw adM cT (wM P' S' mm')) → va_S (fun q : Nat => s.heap.size ≤ q) s.heap H locs → W p l e room_1 s m #[Value.ref b] below meth c H locs 60 60000 (lw_Z below #[Value.ref b] s) (F0 m 487 ls []) := by
        intro κ' P' S' mm' H locs hI hκ' hP hD hS
        refine lv_iinc (i := 3) (k := 3) (v := nI (6 * (j + 1))) hx hb dL_law_487 hl rfl (by rw [show Int32.ofInt 6 = nI 6 from rfl, nI_add]; rfl) (by decide) rfl (fun ls hl => ?_)
        refine lv_goto (tgt := 18) hx hb dL_law_490 (by decide) ?_
        exact ih (j + 1) κ' P' S' mm' H locs ls (by omega) (by omega) hI (by omega) hP hD hS (lv_sub hl [1, 2, 3, 0] rfl)
      have hk0 : vp_in (nI (6 * j)) L := vp_in_nI (by omega) (by omega)
      refine lv_aload_n hx hb dL_law_27 rfl (lv_at hl 0 rfl) ?_
      refine lv_iload_n hx hb dL_law_28 rfl (lv_at hl 3 rfl) ?_
      refine va_sld hx hb hX hbl hbA hS hk0 dL_law_29 ?_
      refine lv_bipush (v := 15) hx hb dL_law_30 (by decide +kernel) ?_
      refine lv_iand hx hb dL_law_32 ?_
      obtain ⟨k, hk, he⟩ := pk_andE (xs (nI (6 * j)).toNatClampNeg) (m := 15) 4 (by decide +kernel)
      rw [he]
      clear he
      rcases (show k = 0 ∨ k = 1 ∨ k = 2 ∨ k = 3 ∨ k = 4 ∨ k = 5 ∨ k = 6 ∨ k = 7 ∨ k = 8 ∨ k = 9 ∨ k = 10 ∨ k = 11 ∨ k = 12 ∨ k = 13 ∨ k = 14 ∨ k = 15 by omega) with rfl | rfl | rfl | rfl | rfl | rfl | rfl | rfl | rfl | rfl | rfl | rfl | rfl | rfl | rfl | rfl
      · refine lv_tableIn (off := 75) (tgt := 108) hx hb dL_law_33 (by decide +kernel) (by decide +kernel) (by decide +kernel) (by decide) ?_
        exact law_node lx hj hL hI hκ2 hP hD hS hl nx
      · refine lv_tableIn (off := 138) (tgt := 171) hx hb dL_law_33 (by decide +kernel) (by decide +kernel) (by decide +kernel) (by decide) ?_
        exact law_clear lx hj hL hI hκ2 hP hD hS hl nx
      · refine lv_tableIn (off := 151) (tgt := 184) hx hb dL_law_33 (by decide +kernel) (by decide +kernel) (by decide +kernel) (by decide) ?_
        exact law_run lx hj hL hI hκ2 hP hD hS hl nx
      · refine lv_tableIn (off := 174) (tgt := 207) hx hb dL_law_33 (by decide +kernel) (by decide +kernel) (by decide +kernel) (by decide) ?_
        exact law_value lx hj hL hI hκ2 hP hD hS hl nx
      · refine lv_tableIn (off := 188) (tgt := 221) hx hb dL_law_33 (by decide +kernel) (by decide +kernel) (by decide +kernel) (by decide) ?_
        exact law_where lx hj hL hI hκ2 hP hD hS hl nx
      · refine lv_tableIn (off := 201) (tgt := 234) hx hb dL_law_33 (by decide +kernel) (by decide +kernel) (by decide +kernel) (by decide) ?_
        exact law_worked lx hj hL hI hκ2 hP hD hS hl nx
      · refine lv_tableIn (off := 214) (tgt := 247) hx hb dL_law_33 (by decide +kernel) (by decide +kernel) (by decide +kernel) (by decide) ?_
        exact law_notes lx hj hL hI hκ2 hP hD hS hl nx
      · refine lv_tableIn (off := 227) (tgt := 260) hx hb dL_law_33 (by decide +kernel) (by decide +kernel) (by decide +kernel) (by decide) ?_
        exact law_note lx hj hL hI hκ2 hP hD hS hl nx
      · refine lv_tableIn (off := 250) (tgt := 283) hx hb dL_law_33 (by decide +kernel) (by decide +kernel) (by decide +kernel) (by decide) ?_
        exact law_has lx hj hL hI hκ2 hP hD hS hl nx
      · refine lv_tableIn (off := 273) (tgt := 306) hx hb dL_law_33 (by decide +kernel) (by decide +kernel) (by decide +kernel) (by decide) ?_
        exact law_get lx hj hL hI hκ2 hP hD hS hl nx
      · refine lv_tableIn (off := 297) (tgt := 330) hx hb dL_law_33 (by decide +kernel) (by decide +kernel) (by decide +kernel) (by decide) ?_
        exact law_thing lx hj hL hI hκ2 hP hD hS hl nx
      · refine lv_tableIn (off := 330) (tgt := 363) hx hb dL_law_33 (by decide +kernel) (by decide +kernel) (by decide +kernel) (by decide) ?_
        exact law_element lx hj hL hI hκ2 hP hD hS hl nx
      · refine lv_tableIn (off := 364) (tgt := 397) hx hb dL_law_33 (by decide +kernel) (by decide +kernel) (by decide +kernel) (by decide) ?_
        exact law_bits lx hj hL hI hκ2 hP hD hS hl nx
      · refine lv_tableIn (off := 398) (tgt := 431) hx hb dL_law_33 (by decide +kernel) (by decide +kernel) (by decide +kernel) (by decide) ?_
        exact law_sub lx hj hL hI hκ2 hP hD hS hl nx
      · refine lv_tableIn (off := 431) (tgt := 464) hx hb dL_law_33 (by decide +kernel) (by decide +kernel) (by decide +kernel) (by decide) ?_
        exact law_told lx hj hL hI hκ2 hP hD hS hl nx
      · refine lv_tableOut (tgt := 487) hx hb dL_law_33 (Or.inr (by decide +kernel)) (by decide) ?_
        exact nx κ P S mm H locs hI (by omega) hP hD hS
end LOOP
