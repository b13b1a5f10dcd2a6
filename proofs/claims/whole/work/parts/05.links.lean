/-- the tables' words that stay over a call -/
def xTs : List Cond := lw_tbl.filter goodWord
theorem x_in {w : Cond} (h : w ∈ lw_tbl) (hg : goodWord w = true) : w ∈ xTs := List.mem_filter.mpr ⟨h, hg⟩
theorem x_t0 {q : MethodName × Nat} {i : Nat} (h : lw_privs[i]? = some q) : Cond.selects q.1.cls q.1 q.1 ∈ xTs := x_in (List.mem_append_left _ (List.mem_map.mpr ⟨q, List.mem_of_getElem? h, rfl⟩)) rfl
theorem x_t1 {w : Cond} {i : Nat} (h : tables_1_1[i]? = some w) (hg : goodWord w = true) : w ∈ xTs := x_in (List.mem_append_right _ (List.mem_append_left _ (List.mem_of_getElem? h))) hg
theorem x_t2 {w : Cond} {i : Nat} (h : tables_1_2[i]? = some w) (hg : goodWord w = true) : w ∈ xTs := x_in (List.mem_append_right _ (List.mem_append_right _ (List.mem_append_left _ (List.mem_of_getElem? h)))) hg
theorem x_t3 {w : Cond} {i : Nat} (h : tables_1_3[i]? = some w) (hg : goodWord w = true) : w ∈ xTs := x_in (List.mem_append_right _ (List.mem_append_right _ (List.mem_append_right _ (List.mem_append_left _ (List.mem_of_getElem? h))))) hg
theorem x_t4 {w : Cond} {i : Nat} (h : tables_1_4[i]? = some w) (hg : goodWord w = true) : w ∈ xTs := x_in (List.mem_append_right _ (List.mem_append_right _ (List.mem_append_right _ (List.mem_append_right _ (List.mem_of_getElem? h))))) hg
theorem x_goodIn : GoodIn xTs xTs := fun w h => ⟨h, good_of_word (List.mem_filter.mp h).2⟩
def xR (n : Nat) : String := match n with
  | 2 => RX2
  | 3 => RX3
  | 4 => RX4
  | 5 => RX5
  | 6 => RX6
  | 7 => RX7
  | _ => RX8
theorem lay2_0 : u_lay RX2 TX2 0 ∈ xTs := x_t1 (i := 67) rfl rfl
theorem lay2_1 : u_lay RX2 TX2 1 ∈ xTs := x_t1 (i := 69) rfl rfl
theorem lay2_2 : u_lay RX2 TX2 2 ∈ xTs := x_t1 (i := 71) rfl rfl
theorem lay2_3 : u_lay RX2 TX2 3 ∈ xTs := x_t1 (i := 73) rfl rfl
theorem lay2_4 : u_lay RX2 TX2 4 ∈ xTs := x_t1 (i := 75) rfl rfl
theorem lay2_5 : u_lay RX2 TX2 5 ∈ xTs := x_t1 (i := 77) rfl rfl
theorem lay2_6 : u_lay RX2 TX2 6 ∈ xTs := x_t1 (i := 79) rfl rfl
theorem inx2 : ∀ w ∈ u_ws RX2 TX2 7, w ∈ xTs := List.forall_mem_cons.mpr ⟨lay2_0, List.forall_mem_cons.mpr ⟨lay2_1, List.forall_mem_cons.mpr ⟨lay2_2, List.forall_mem_cons.mpr ⟨lay2_3, List.forall_mem_cons.mpr ⟨lay2_4, List.forall_mem_cons.mpr ⟨lay2_5, List.forall_mem_cons.mpr ⟨lay2_6, List.forall_mem_nil _⟩⟩⟩⟩⟩⟩⟩
theorem lay4_0 : u_lay RX4 TX4 0 ∈ xTs := x_t1 (i := 36) rfl rfl
theorem lay4_1 : u_lay RX4 TX4 1 ∈ xTs := x_t1 (i := 38) rfl rfl
theorem lay4_2 : u_lay RX4 TX4 2 ∈ xTs := x_t1 (i := 40) rfl rfl
theorem lay4_3 : u_lay RX4 TX4 3 ∈ xTs := x_t1 (i := 42) rfl rfl
theorem lay4_4 : u_lay RX4 TX4 4 ∈ xTs := x_t1 (i := 44) rfl rfl
theorem lay4_5 : u_lay RX4 TX4 5 ∈ xTs := x_t1 (i := 46) rfl rfl
theorem lay4_6 : u_lay RX4 TX4 6 ∈ xTs := x_t1 (i := 48) rfl rfl
theorem inx4 : ∀ w ∈ u_ws RX4 TX4 7, w ∈ xTs := List.forall_mem_cons.mpr ⟨lay4_0, List.forall_mem_cons.mpr ⟨lay4_1, List.forall_mem_cons.mpr ⟨lay4_2, List.forall_mem_cons.mpr ⟨lay4_3, List.forall_mem_cons.mpr ⟨lay4_4, List.forall_mem_cons.mpr ⟨lay4_5, List.forall_mem_cons.mpr ⟨lay4_6, List.forall_mem_nil _⟩⟩⟩⟩⟩⟩⟩
theorem lay6_0 : u_lay RX6 TX6 0 ∈ xTs := x_t1 (i := 111) rfl rfl
theorem lay6_1 : u_lay RX6 TX6 1 ∈ xTs := x_t1 (i := 113) rfl rfl
theorem lay6_2 : u_lay RX6 TX6 2 ∈ xTs := x_t1 (i := 115) rfl rfl
theorem lay6_3 : u_lay RX6 TX6 3 ∈ xTs := x_t1 (i := 117) rfl rfl
theorem lay6_4 : u_lay RX6 TX6 4 ∈ xTs := x_t1 (i := 119) rfl rfl
theorem lay6_5 : u_lay RX6 TX6 5 ∈ xTs := x_t1 (i := 121) rfl rfl
theorem lay6_6 : u_lay RX6 TX6 6 ∈ xTs := x_t1 (i := 123) rfl rfl
theorem lay6_7 : u_lay RX6 TX6 7 ∈ xTs := x_t1 (i := 125) rfl rfl
theorem lay6_8 : u_lay RX6 TX6 8 ∈ xTs := x_t1 (i := 127) rfl rfl
theorem lay6_9 : u_lay RX6 TX6 9 ∈ xTs := x_t1 (i := 129) rfl rfl
theorem lay6_10 : u_lay RX6 TX6 10 ∈ xTs := x_t1 (i := 131) rfl rfl
theorem lay6_11 : u_lay RX6 TX6 11 ∈ xTs := x_t1 (i := 133) rfl rfl
theorem lay6_12 : u_lay RX6 TX6 12 ∈ xTs := x_t1 (i := 135) rfl rfl
theorem lay6_13 : u_lay RX6 TX6 13 ∈ xTs := x_t1 (i := 137) rfl rfl
theorem lay6_14 : u_lay RX6 TX6 14 ∈ xTs := x_t1 (i := 139) rfl rfl
theorem inx6 : ∀ w ∈ u_ws RX6 TX6 15, w ∈ xTs := List.forall_mem_cons.mpr ⟨lay6_0, List.forall_mem_cons.mpr ⟨lay6_1, List.forall_mem_cons.mpr ⟨lay6_2, List.forall_mem_cons.mpr ⟨lay6_3, List.forall_mem_cons.mpr ⟨lay6_4, List.forall_mem_cons.mpr ⟨lay6_5, List.forall_mem_cons.mpr ⟨lay6_6, List.forall_mem_cons.mpr ⟨lay6_7, List.forall_mem_cons.mpr ⟨lay6_8, List.forall_mem_cons.mpr ⟨lay6_9, List.forall_mem_cons.mpr ⟨lay6_10, List.forall_mem_cons.mpr ⟨lay6_11, List.forall_mem_cons.mpr ⟨lay6_12, List.forall_mem_cons.mpr ⟨lay6_13, List.forall_mem_cons.mpr ⟨lay6_14, List.forall_mem_nil _⟩⟩⟩⟩⟩⟩⟩⟩⟩⟩⟩⟩⟩⟩⟩
theorem lay7_0 : u_lay RX7 TX7 0 ∈ xTs := x_t1 (i := 145) rfl rfl
theorem lay7_1 : u_lay RX7 TX7 1 ∈ xTs := x_t1 (i := 147) rfl rfl
theorem lay7_2 : u_lay RX7 TX7 2 ∈ xTs := x_t1 (i := 149) rfl rfl
theorem inx7 : ∀ w ∈ u_ws RX7 TX7 3, w ∈ xTs := List.forall_mem_cons.mpr ⟨lay7_0, List.forall_mem_cons.mpr ⟨lay7_1, List.forall_mem_cons.mpr ⟨lay7_2, List.forall_mem_nil _⟩⟩⟩
theorem lay8_0 : u_lay RX8 TX8 0 ∈ xTs := x_t3 (i := 125) rfl rfl
theorem lay8_1 : u_lay RX8 TX8 1 ∈ xTs := x_t3 (i := 127) rfl rfl
theorem lay8_2 : u_lay RX8 TX8 2 ∈ xTs := x_t3 (i := 129) rfl rfl
theorem lay8_3 : u_lay RX8 TX8 3 ∈ xTs := x_t3 (i := 131) rfl rfl
theorem lay8_4 : u_lay RX8 TX8 4 ∈ xTs := x_t3 (i := 133) rfl rfl
theorem lay8_5 : u_lay RX8 TX8 5 ∈ xTs := x_t3 (i := 135) rfl rfl
theorem lay8_6 : u_lay RX8 TX8 6 ∈ xTs := x_t3 (i := 137) rfl rfl
theorem lay8_7 : u_lay RX8 TX8 7 ∈ xTs := x_t3 (i := 139) rfl rfl
theorem lay8_8 : u_lay RX8 TX8 8 ∈ xTs := x_t3 (i := 141) rfl rfl
theorem lay8_9 : u_lay RX8 TX8 9 ∈ xTs := x_t3 (i := 143) rfl rfl
theorem lay8_10 : u_lay RX8 TX8 10 ∈ xTs := x_t3 (i := 145) rfl rfl
theorem lay8_11 : u_lay RX8 TX8 11 ∈ xTs := x_t3 (i := 147) rfl rfl
theorem lay8_12 : u_lay RX8 TX8 12 ∈ xTs := x_t3 (i := 149) rfl rfl
theorem lay8_13 : u_lay RX8 TX8 13 ∈ xTs := x_t3 (i := 151) rfl rfl
theorem lay8_14 : u_lay RX8 TX8 14 ∈ xTs := x_t3 (i := 153) rfl rfl
theorem lay8_15 : u_lay RX8 TX8 15 ∈ xTs := x_t3 (i := 155) rfl rfl
theorem lay8_16 : u_lay RX8 TX8 16 ∈ xTs := x_t3 (i := 157) rfl rfl
theorem lay8_17 : u_lay RX8 TX8 17 ∈ xTs := x_t3 (i := 159) rfl rfl
theorem lay8_18 : u_lay RX8 TX8 18 ∈ xTs := x_t3 (i := 161) rfl rfl
theorem lay8_19 : u_lay RX8 TX8 19 ∈ xTs := x_t3 (i := 163) rfl rfl
theorem lay8_20 : u_lay RX8 TX8 20 ∈ xTs := x_t3 (i := 165) rfl rfl
theorem lay8_21 : u_lay RX8 TX8 21 ∈ xTs := x_t3 (i := 167) rfl rfl
theorem lay8_22 : u_lay RX8 TX8 22 ∈ xTs := x_t3 (i := 169) rfl rfl
theorem lay8_23 : u_lay RX8 TX8 23 ∈ xTs := x_t3 (i := 171) rfl rfl
theorem lay8_24 : u_lay RX8 TX8 24 ∈ xTs := x_t3 (i := 173) rfl rfl
theorem lay8_25 : u_lay RX8 TX8 25 ∈ xTs := x_t3 (i := 175) rfl rfl
theorem lay8_26 : u_lay RX8 TX8 26 ∈ xTs := x_t3 (i := 177) rfl rfl
theorem lay8_27 : u_lay RX8 TX8 27 ∈ xTs := x_t3 (i := 179) rfl rfl
theorem lay8_28 : u_lay RX8 TX8 28 ∈ xTs := x_t3 (i := 181) rfl rfl
theorem lay8_29 : u_lay RX8 TX8 29 ∈ xTs := x_t3 (i := 183) rfl rfl
theorem lay8_30 : u_lay RX8 TX8 30 ∈ xTs := x_t3 (i := 185) rfl rfl
theorem lay8_31 : u_lay RX8 TX8 31 ∈ xTs := x_t3 (i := 187) rfl rfl
theorem lay8_32 : u_lay RX8 TX8 32 ∈ xTs := x_t3 (i := 189) rfl rfl
theorem lay8_33 : u_lay RX8 TX8 33 ∈ xTs := x_t3 (i := 191) rfl rfl
theorem lay8_34 : u_lay RX8 TX8 34 ∈ xTs := x_t3 (i := 193) rfl rfl
theorem lay8_35 : u_lay RX8 TX8 35 ∈ xTs := x_t3 (i := 195) rfl rfl
theorem lay8_36 : u_lay RX8 TX8 36 ∈ xTs := x_t3 (i := 197) rfl rfl
theorem lay8_37 : u_lay RX8 TX8 37 ∈ xTs := x_t3 (i := 199) rfl rfl
theorem lay8_38 : u_lay RX8 TX8 38 ∈ xTs := x_t3 (i := 201) rfl rfl
theorem inx8 : ∀ w ∈ u_ws RX8 TX8 39, w ∈ xTs := List.forall_mem_cons.mpr ⟨lay8_0, List.forall_mem_cons.mpr ⟨lay8_1, List.forall_mem_cons.mpr ⟨lay8_2, List.forall_mem_cons.mpr ⟨lay8_3, List.forall_mem_cons.mpr ⟨lay8_4, List.forall_mem_cons.mpr ⟨lay8_5, List.forall_mem_cons.mpr ⟨lay8_6, List.forall_mem_cons.mpr ⟨lay8_7, List.forall_mem_cons.mpr ⟨lay8_8, List.forall_mem_cons.mpr ⟨lay8_9, List.forall_mem_cons.mpr ⟨lay8_10, List.forall_mem_cons.mpr ⟨lay8_11, List.forall_mem_cons.mpr ⟨lay8_12, List.forall_mem_cons.mpr ⟨lay8_13, List.forall_mem_cons.mpr ⟨lay8_14, List.forall_mem_cons.mpr ⟨lay8_15, List.forall_mem_cons.mpr ⟨lay8_16, List.forall_mem_cons.mpr ⟨lay8_17, List.forall_mem_cons.mpr ⟨lay8_18, List.forall_mem_cons.mpr ⟨lay8_19, List.forall_mem_cons.mpr ⟨lay8_20, List.forall_mem_cons.mpr ⟨lay8_21, List.forall_mem_cons.mpr ⟨lay8_22, List.forall_mem_cons.mpr ⟨lay8_23, List.forall_mem_cons.mpr ⟨lay8_24, List.forall_mem_cons.mpr ⟨lay8_25, List.forall_mem_cons.mpr ⟨lay8_26, List.forall_mem_cons.mpr ⟨lay8_27, List.forall_mem_cons.mpr ⟨lay8_28, List.forall_mem_cons.mpr ⟨lay8_29, List.forall_mem_cons.mpr ⟨lay8_30, List.forall_mem_cons.mpr ⟨lay8_31, List.forall_mem_cons.mpr ⟨lay8_32, List.forall_mem_cons.mpr ⟨lay8_33, List.forall_mem_cons.mpr ⟨lay8_34, List.forall_mem_cons.mpr ⟨lay8_35, List.forall_mem_cons.mpr ⟨lay8_36, List.forall_mem_cons.mpr ⟨lay8_37, List.forall_mem_cons.mpr ⟨lay8_38, List.forall_mem_nil _⟩⟩⟩⟩⟩⟩⟩⟩⟩⟩⟩⟩⟩⟩⟩⟩⟩⟩⟩⟩⟩⟩⟩⟩⟩⟩⟩⟩⟩⟩⟩⟩⟩⟩⟩⟩⟩⟩⟩
def xNs : List Cond := [Cond.fieldLinkNest RX6 84 "ArrayRules$Program" "codes" "[I" "ArrayRules", Cond.fieldLinkNest RX6 87 "ArrayRules$Program" "a" "[I" "ArrayRules", Cond.fieldLinkNest RX6 132 "ArrayRules$Program" "b" "[I" "ArrayRules", Cond.fieldLinkNest RX6 159 "ArrayRules$Program" "c" "[I" "ArrayRules", Cond.fieldLinkNest RX6 170 "ArrayRules$Program" "d" "[I" "ArrayRules", Cond.fieldLinkNest RX7 48 "ArrayRules$Worker" "amount" "J" "ArrayRules", Cond.fieldLinkNest RX7 52 "ArrayRules$Worker" "failedAt" "I" "ArrayRules", Cond.fieldLinkNest RX7 56 "ArrayRules$Worker" "nodesWorked" "I" "ArrayRules", Cond.fieldLinkNest RX7 59 "ArrayRules$Worker" "noted" "I" "ArrayRules", Cond.fieldLinkNest RX7 68 "ArrayRules$Worker" "variableKinds" "[I" "ArrayRules", Cond.fieldLinkNest RX7 72 "ArrayRules$Worker" "variableAmounts" "[J" "ArrayRules", Cond.fieldLinkNest RX7 104 "ArrayRules$Program" "count" "I" "ArrayRules", Cond.fieldLinkNest RX7 107 "ArrayRules$Heap" "things" "I" "ArrayRules", Cond.fieldLinkNest RX7 110 "ArrayRules$Heap" "elements" "I" "ArrayRules", Cond.methodLinkNest RX4 51 yX7_isVariable "ArrayRules", Cond.methodLinkNest RX6 241 yX7_isVariable "ArrayRules"]
theorem xNs_in : ∀ w ∈ xNs, w ∈ lw_tbl := List.forall_mem_cons.mpr ⟨List.mem_append_right _ (List.mem_append_left _ (List.mem_of_getElem? (i := 24) rfl)), List.forall_mem_cons.mpr ⟨List.mem_append_right _ (List.mem_append_left _ (List.mem_of_getElem? (i := 26) rfl)), List.forall_mem_cons.mpr ⟨List.mem_append_right _ (List.mem_append_left _ (List.mem_of_getElem? (i := 28) rfl)), List.forall_mem_cons.mpr ⟨List.mem_append_right _ (List.mem_append_left _ (List.mem_of_getElem? (i := 30) rfl)), List.forall_mem_cons.mpr ⟨List.mem_append_right _ (List.mem_append_left _ (List.mem_of_getElem? (i := 32) rfl)), List.forall_mem_cons.mpr ⟨List.mem_append_right _ (List.mem_append_left _ (List.mem_of_getElem? (i := 102) rfl)), List.forall_mem_cons.mpr ⟨List.mem_append_right _ (List.mem_append_left _ (List.mem_of_getElem? (i := 105) rfl)), List.forall_mem_cons.mpr ⟨List.mem_append_right _ (List.mem_append_left _ (List.mem_of_getElem? (i := 107) rfl)), List.forall_mem_cons.mpr ⟨List.mem_append_right _ (List.mem_append_left _ (List.mem_of_getElem? (i := 109) rfl)), List.forall_mem_cons.mpr ⟨List.mem_append_right _ (List.mem_append_left _ (List.mem_of_getElem? (i := 93) rfl)), List.forall_mem_cons.mpr ⟨List.mem_append_right _ (List.mem_append_left _ (List.mem_of_getElem? (i := 95) rfl)), List.forall_mem_cons.mpr ⟨List.mem_append_right _ (List.mem_append_left _ (List.mem_of_getElem? (i := 35) rfl)), List.forall_mem_cons.mpr ⟨List.mem_append_right _ (List.mem_append_left _ (List.mem_of_getElem? (i := 64) rfl)), List.forall_mem_cons.mpr ⟨List.mem_append_right _ (List.mem_append_left _ (List.mem_of_getElem? (i := 66) rfl)), List.forall_mem_cons.mpr ⟨List.mem_append_right _ (List.mem_append_left _ (List.mem_of_getElem? (i := 164) rfl)), List.forall_mem_cons.mpr ⟨List.mem_append_right _ (List.mem_append_right _ (List.mem_append_left _ (List.mem_of_getElem? (i := 8) rfl))), List.forall_mem_nil _⟩⟩⟩⟩⟩⟩⟩⟩⟩⟩⟩⟩⟩⟩⟩⟩
def x_FL (on i ci k : Nat) : Prop := ∃ c : vw_C, vwCl[ci]? = some c ∧ k < c.2.2 ∧ (∀ w ∈ u_ws c.1 c.2.1 c.2.2, w ∈ xTs) ∧ Cond.fieldLink (xR on) i (c.2.1 k).1 (c.2.1 k).2.1 (c.2.1 k).2.2.1 ∈ xTs
def x_FN (on i ci k : Nat) : Prop := ∃ (c : vw_C) (host : String), vwCl[ci]? = some c ∧ k < c.2.2 ∧ (∀ w ∈ u_ws c.1 c.2.1 c.2.2, w ∈ xTs) ∧ Cond.fieldLinkNest (xR on) i (c.2.1 k).1 (c.2.1 k).2.1 (c.2.1 k).2.2.1 host ∈ xNs
def x_PF (ci k : Nat) (v : Value) : Prop := ∃ (c : vw_C) (ty0 : Nat → FieldType), vwCl[ci]? = some c ∧ (∀ k, k < c.2.2 → parseFieldDescriptor (c.2.1 k).2.2.1 = some (ty0 k)) ∧ (∀ a, a < c.2.2 → ∀ b, b < c.2.2 → a ≠ b → (c.2.1 a).2.1 ≠ (c.2.1 b).2.1) ∧ (c.2.1 k).2.2.2 = false ∧ parseFieldDescriptor (c.2.1 k).2.2.1 = some (match v with | .int _ => .int | .long _ => .long | _ => .boolean)
def x_ML (on i M : Nat) : Prop := ∃ r : xMI, x_row M = some r ∧ Cond.methodLink (xR on) i r.2.2.2.2.2.1 ∈ xTs
def x_MN (on i M : Nat) : Prop := ∃ (r : xMI) (host : String), x_row M = some r ∧ Cond.methodLinkNest (xR on) i r.2.2.2.2.2.1 host ∈ xNs
def x_CL (on i : Nat) (v : Value) : Prop := match v with
  | .long c => Cond.constantLong (xR on) i c ∈ xTs
  | .double c => Cond.constantDouble (xR on) i c ∈ xTs
  | _ => False
theorem fl_2_9 : x_FL 2 9 0 0 := ⟨(RX2, TX2, 7), rfl, Nat.le_of_ble_eq_true rfl, inx2, x_t1 (i := 58) rfl rfl⟩
theorem fl_2_15 : x_FL 2 15 0 1 := ⟨(RX2, TX2, 7), rfl, Nat.le_of_ble_eq_true rfl, inx2, x_t1 (i := 59) rfl rfl⟩
theorem fl_2_18 : x_FL 2 18 0 2 := ⟨(RX2, TX2, 7), rfl, Nat.le_of_ble_eq_true rfl, inx2, x_t1 (i := 60) rfl rfl⟩
theorem fl_2_21 : x_FL 2 21 0 3 := ⟨(RX2, TX2, 7), rfl, Nat.le_of_ble_eq_true rfl, inx2, x_t1 (i := 61) rfl rfl⟩
theorem fl_2_25 : x_FL 2 25 0 4 := ⟨(RX2, TX2, 7), rfl, Nat.le_of_ble_eq_true rfl, inx2, x_t1 (i := 62) rfl rfl⟩
theorem fl_2_29 : x_FL 2 29 0 5 := ⟨(RX2, TX2, 7), rfl, Nat.le_of_ble_eq_true rfl, inx2, x_t1 (i := 63) rfl rfl⟩
theorem fl_2_33 : x_FL 2 33 0 6 := ⟨(RX2, TX2, 7), rfl, Nat.le_of_ble_eq_true rfl, inx2, x_t1 (i := 65) rfl rfl⟩
theorem fl_4_9 : x_FL 4 9 1 0 := ⟨(RX4, TX4, 7), rfl, Nat.le_of_ble_eq_true rfl, inx4, x_t1 (i := 23) rfl rfl⟩
theorem fl_4_15 : x_FL 4 15 1 1 := ⟨(RX4, TX4, 7), rfl, Nat.le_of_ble_eq_true rfl, inx4, x_t1 (i := 25) rfl rfl⟩
theorem fl_4_18 : x_FL 4 18 1 2 := ⟨(RX4, TX4, 7), rfl, Nat.le_of_ble_eq_true rfl, inx4, x_t1 (i := 27) rfl rfl⟩
theorem fl_4_21 : x_FL 4 21 1 3 := ⟨(RX4, TX4, 7), rfl, Nat.le_of_ble_eq_true rfl, inx4, x_t1 (i := 29) rfl rfl⟩
theorem fl_4_24 : x_FL 4 24 1 4 := ⟨(RX4, TX4, 7), rfl, Nat.le_of_ble_eq_true rfl, inx4, x_t1 (i := 31) rfl rfl⟩
theorem fl_4_27 : x_FL 4 27 1 5 := ⟨(RX4, TX4, 7), rfl, Nat.le_of_ble_eq_true rfl, inx4, x_t1 (i := 33) rfl rfl⟩
theorem fl_4_30 : x_FL 4 30 1 6 := ⟨(RX4, TX4, 7), rfl, Nat.le_of_ble_eq_true rfl, inx4, x_t1 (i := 34) rfl rfl⟩
theorem fl_6_9 : x_FL 6 9 2 2 := ⟨(RX6, TX6, 15), rfl, Nat.le_of_ble_eq_true rfl, inx6, x_t1 (i := 92) rfl rfl⟩
theorem fl_6_15 : x_FL 6 15 2 3 := ⟨(RX6, TX6, 15), rfl, Nat.le_of_ble_eq_true rfl, inx6, x_t1 (i := 94) rfl rfl⟩
theorem fl_6_19 : x_FL 6 19 2 4 := ⟨(RX6, TX6, 15), rfl, Nat.le_of_ble_eq_true rfl, inx6, x_t1 (i := 96) rfl rfl⟩
theorem fl_6_22 : x_FL 6 22 2 5 := ⟨(RX6, TX6, 15), rfl, Nat.le_of_ble_eq_true rfl, inx6, x_t1 (i := 97) rfl rfl⟩
theorem fl_6_25 : x_FL 6 25 2 6 := ⟨(RX6, TX6, 15), rfl, Nat.le_of_ble_eq_true rfl, inx6, x_t1 (i := 98) rfl rfl⟩
theorem fl_6_28 : x_FL 6 28 2 7 := ⟨(RX6, TX6, 15), rfl, Nat.le_of_ble_eq_true rfl, inx6, x_t1 (i := 99) rfl rfl⟩
theorem fl_6_32 : x_FL 6 32 2 8 := ⟨(RX6, TX6, 15), rfl, Nat.le_of_ble_eq_true rfl, inx6, x_t1 (i := 100) rfl rfl⟩
theorem fl_6_35 : x_FL 6 35 2 9 := ⟨(RX6, TX6, 15), rfl, Nat.le_of_ble_eq_true rfl, inx6, x_t1 (i := 101) rfl rfl⟩
theorem fl_6_41 : x_FL 6 41 2 10 := ⟨(RX6, TX6, 15), rfl, Nat.le_of_ble_eq_true rfl, inx6, x_t1 (i := 103) rfl rfl⟩
theorem fl_6_44 : x_FL 6 44 2 11 := ⟨(RX6, TX6, 15), rfl, Nat.le_of_ble_eq_true rfl, inx6, x_t1 (i := 104) rfl rfl⟩
theorem fl_6_47 : x_FL 6 47 2 12 := ⟨(RX6, TX6, 15), rfl, Nat.le_of_ble_eq_true rfl, inx6, x_t1 (i := 106) rfl rfl⟩
theorem fl_6_50 : x_FL 6 50 2 13 := ⟨(RX6, TX6, 15), rfl, Nat.le_of_ble_eq_true rfl, inx6, x_t1 (i := 108) rfl rfl⟩
theorem fl_6_53 : x_FL 6 53 2 14 := ⟨(RX6, TX6, 15), rfl, Nat.le_of_ble_eq_true rfl, inx6, x_t1 (i := 110) rfl rfl⟩
theorem fl_6_56 : x_FL 6 56 2 0 := ⟨(RX6, TX6, 15), rfl, Nat.le_of_ble_eq_true rfl, inx6, x_t1 (i := 90) rfl rfl⟩
theorem fl_6_60 : x_FL 6 60 2 1 := ⟨(RX6, TX6, 15), rfl, Nat.le_of_ble_eq_true rfl, inx6, x_t1 (i := 91) rfl rfl⟩
theorem fl_7_12 : x_FL 7 12 3 0 := ⟨(RX7, TX7, 3), rfl, Nat.le_of_ble_eq_true rfl, inx7, x_t1 (i := 142) rfl rfl⟩
theorem fl_7_19 : x_FL 7 19 3 1 := ⟨(RX7, TX7, 3), rfl, Nat.le_of_ble_eq_true rfl, inx7, x_t1 (i := 143) rfl rfl⟩
theorem fl_7_28 : x_FL 7 28 3 2 := ⟨(RX7, TX7, 3), rfl, Nat.le_of_ble_eq_true rfl, inx7, x_t1 (i := 144) rfl rfl⟩
theorem fl_8_7 : x_FL 8 7 4 1 := ⟨(RX8, TX8, 39), rfl, Nat.le_of_ble_eq_true rfl, inx8, x_t3 (i := 87) rfl rfl⟩
theorem fl_8_13 : x_FL 8 13 4 2 := ⟨(RX8, TX8, 39), rfl, Nat.le_of_ble_eq_true rfl, inx8, x_t3 (i := 88) rfl rfl⟩
theorem fl_8_16 : x_FL 8 16 4 3 := ⟨(RX8, TX8, 39), rfl, Nat.le_of_ble_eq_true rfl, inx8, x_t3 (i := 89) rfl rfl⟩
theorem fl_8_19 : x_FL 8 19 4 4 := ⟨(RX8, TX8, 39), rfl, Nat.le_of_ble_eq_true rfl, inx8, x_t3 (i := 90) rfl rfl⟩
theorem fl_8_22 : x_FL 8 22 4 5 := ⟨(RX8, TX8, 39), rfl, Nat.le_of_ble_eq_true rfl, inx8, x_t3 (i := 91) rfl rfl⟩
theorem fl_8_25 : x_FL 8 25 4 7 := ⟨(RX8, TX8, 39), rfl, Nat.le_of_ble_eq_true rfl, inx8, x_t3 (i := 93) rfl rfl⟩
theorem fl_8_28 : x_FL 8 28 4 8 := ⟨(RX8, TX8, 39), rfl, Nat.le_of_ble_eq_true rfl, inx8, x_t3 (i := 94) rfl rfl⟩
theorem fl_8_31 : x_FL 8 31 4 9 := ⟨(RX8, TX8, 39), rfl, Nat.le_of_ble_eq_true rfl, inx8, x_t3 (i := 95) rfl rfl⟩
theorem fl_8_34 : x_FL 8 34 4 11 := ⟨(RX8, TX8, 39), rfl, Nat.le_of_ble_eq_true rfl, inx8, x_t3 (i := 97) rfl rfl⟩
theorem fl_8_38 : x_FL 8 38 4 12 := ⟨(RX8, TX8, 39), rfl, Nat.le_of_ble_eq_true rfl, inx8, x_t3 (i := 98) rfl rfl⟩
theorem fl_8_42 : x_FL 8 42 4 13 := ⟨(RX8, TX8, 39), rfl, Nat.le_of_ble_eq_true rfl, inx8, x_t3 (i := 99) rfl rfl⟩
theorem fl_8_46 : x_FL 8 46 4 14 := ⟨(RX8, TX8, 39), rfl, Nat.le_of_ble_eq_true rfl, inx8, x_t3 (i := 100) rfl rfl⟩
theorem fl_8_49 : x_FL 8 49 4 16 := ⟨(RX8, TX8, 39), rfl, Nat.le_of_ble_eq_true rfl, inx8, x_t3 (i := 102) rfl rfl⟩
theorem fl_8_52 : x_FL 8 52 4 17 := ⟨(RX8, TX8, 39), rfl, Nat.le_of_ble_eq_true rfl, inx8, x_t3 (i := 103) rfl rfl⟩
theorem fl_8_55 : x_FL 8 55 4 18 := ⟨(RX8, TX8, 39), rfl, Nat.le_of_ble_eq_true rfl, inx8, x_t3 (i := 104) rfl rfl⟩
theorem fl_8_58 : x_FL 8 58 4 19 := ⟨(RX8, TX8, 39), rfl, Nat.le_of_ble_eq_true rfl, inx8, x_t3 (i := 105) rfl rfl⟩
theorem fl_8_61 : x_FL 8 61 4 20 := ⟨(RX8, TX8, 39), rfl, Nat.le_of_ble_eq_true rfl, inx8, x_t3 (i := 106) rfl rfl⟩
theorem fl_8_64 : x_FL 8 64 4 21 := ⟨(RX8, TX8, 39), rfl, Nat.le_of_ble_eq_true rfl, inx8, x_t3 (i := 107) rfl rfl⟩
theorem fl_8_67 : x_FL 8 67 4 22 := ⟨(RX8, TX8, 39), rfl, Nat.le_of_ble_eq_true rfl, inx8, x_t3 (i := 108) rfl rfl⟩
theorem fl_8_70 : x_FL 8 70 4 23 := ⟨(RX8, TX8, 39), rfl, Nat.le_of_ble_eq_true rfl, inx8, x_t3 (i := 109) rfl rfl⟩
theorem fl_8_73 : x_FL 8 73 4 24 := ⟨(RX8, TX8, 39), rfl, Nat.le_of_ble_eq_true rfl, inx8, x_t3 (i := 110) rfl rfl⟩
theorem fl_8_76 : x_FL 8 76 4 25 := ⟨(RX8, TX8, 39), rfl, Nat.le_of_ble_eq_true rfl, inx8, x_t3 (i := 111) rfl rfl⟩
theorem fl_8_79 : x_FL 8 79 4 27 := ⟨(RX8, TX8, 39), rfl, Nat.le_of_ble_eq_true rfl, inx8, x_t3 (i := 113) rfl rfl⟩
theorem fl_8_82 : x_FL 8 82 4 28 := ⟨(RX8, TX8, 39), rfl, Nat.le_of_ble_eq_true rfl, inx8, x_t3 (i := 114) rfl rfl⟩
theorem fl_8_85 : x_FL 8 85 4 33 := ⟨(RX8, TX8, 39), rfl, Nat.le_of_ble_eq_true rfl, inx8, x_t3 (i := 119) rfl rfl⟩
theorem fl_8_89 : x_FL 8 89 4 36 := ⟨(RX8, TX8, 39), rfl, Nat.le_of_ble_eq_true rfl, inx8, x_t3 (i := 122) rfl rfl⟩
theorem fl_8_92 : x_FL 8 92 4 37 := ⟨(RX8, TX8, 39), rfl, Nat.le_of_ble_eq_true rfl, inx8, x_t3 (i := 123) rfl rfl⟩
theorem fl_8_95 : x_FL 8 95 4 38 := ⟨(RX8, TX8, 39), rfl, Nat.le_of_ble_eq_true rfl, inx8, x_t3 (i := 124) rfl rfl⟩
theorem fl_8_122 : x_FL 8 122 4 0 := ⟨(RX8, TX8, 39), rfl, Nat.le_of_ble_eq_true rfl, inx8, x_t3 (i := 86) rfl rfl⟩
theorem fl_8_162 : x_FL 8 162 4 31 := ⟨(RX8, TX8, 39), rfl, Nat.le_of_ble_eq_true rfl, inx8, x_t3 (i := 117) rfl rfl⟩
theorem fl_8_169 : x_FL 8 169 4 34 := ⟨(RX8, TX8, 39), rfl, Nat.le_of_ble_eq_true rfl, inx8, x_t3 (i := 120) rfl rfl⟩
theorem fl_8_172 : x_FL 8 172 4 15 := ⟨(RX8, TX8, 39), rfl, Nat.le_of_ble_eq_true rfl, inx8, x_t3 (i := 101) rfl rfl⟩
theorem fl_8_175 : x_FL 8 175 4 26 := ⟨(RX8, TX8, 39), rfl, Nat.le_of_ble_eq_true rfl, inx8, x_t3 (i := 112) rfl rfl⟩
theorem fl_8_178 : x_FL 8 178 4 29 := ⟨(RX8, TX8, 39), rfl, Nat.le_of_ble_eq_true rfl, inx8, x_t3 (i := 115) rfl rfl⟩
theorem fl_8_182 : x_FL 8 182 4 30 := ⟨(RX8, TX8, 39), rfl, Nat.le_of_ble_eq_true rfl, inx8, x_t3 (i := 116) rfl rfl⟩
theorem fl_8_194 : x_FL 8 194 4 6 := ⟨(RX8, TX8, 39), rfl, Nat.le_of_ble_eq_true rfl, inx8, x_t3 (i := 92) rfl rfl⟩
theorem fl_8_199 : x_FL 8 199 4 10 := ⟨(RX8, TX8, 39), rfl, Nat.le_of_ble_eq_true rfl, inx8, x_t3 (i := 96) rfl rfl⟩
theorem fl_8_272 : x_FL 8 272 4 35 := ⟨(RX8, TX8, 39), rfl, Nat.le_of_ble_eq_true rfl, inx8, x_t3 (i := 121) rfl rfl⟩
theorem fl_8_311 : x_FL 8 311 4 32 := ⟨(RX8, TX8, 39), rfl, Nat.le_of_ble_eq_true rfl, inx8, x_t3 (i := 118) rfl rfl⟩
def x_fls : List (Nat × Nat × Nat × Nat) := [(2, 9, 0, 0), (2, 15, 0, 1), (2, 18, 0, 2), (2, 21, 0, 3), (2, 25, 0, 4), (2, 29, 0, 5), (2, 33, 0, 6), (4, 9, 1, 0), (4, 15, 1, 1), (4, 18, 1, 2), (4, 21, 1, 3), (4, 24, 1, 4), (4, 27, 1, 5), (4, 30, 1, 6), (6, 9, 2, 2), (6, 15, 2, 3), (6, 19, 2, 4), (6, 22, 2, 5), (6, 25, 2, 6), (6, 28, 2, 7), (6, 32, 2, 8), (6, 35, 2, 9), (6, 41, 2, 10), (6, 44, 2, 11), (6, 47, 2, 12), (6, 50, 2, 13), (6, 53, 2, 14), (6, 56, 2, 0), (6, 60, 2, 1), (7, 12, 3, 0), (7, 19, 3, 1), (7, 28, 3, 2), (8, 7, 4, 1), (8, 13, 4, 2), (8, 16, 4, 3), (8, 19, 4, 4), (8, 22, 4, 5), (8, 25, 4, 7), (8, 28, 4, 8), (8, 31, 4, 9), (8, 34, 4, 11), (8, 38, 4, 12), (8, 42, 4, 13), (8, 46, 4, 14), (8, 49, 4, 16), (8, 52, 4, 17), (8, 55, 4, 18), (8, 58, 4, 19), (8, 61, 4, 20), (8, 64, 4, 21), (8, 67, 4, 22), (8, 70, 4, 23), (8, 73, 4, 24), (8, 76, 4, 25), (8, 79, 4, 27), (8, 82, 4, 28), (8, 85, 4, 33), (8, 89, 4, 36), (8, 92, 4, 37), (8, 95, 4, 38), (8, 122, 4, 0), (8, 162, 4, 31), (8, 169, 4, 34), (8, 172, 4, 15), (8, 175, 4, 26), (8, 178, 4, 29), (8, 182, 4, 30), (8, 194, 4, 6), (8, 199, 4, 10), (8, 272, 4, 35), (8, 311, 4, 32)]
theorem x_fls_ok : ∀ q ∈ x_fls, x_FL q.1 q.2.1 q.2.2.1 q.2.2.2 := List.forall_mem_cons.mpr ⟨fl_2_9, List.forall_mem_cons.mpr ⟨fl_2_15, List.forall_mem_cons.mpr ⟨fl_2_18, List.forall_mem_cons.mpr ⟨fl_2_21, List.forall_mem_cons.mpr ⟨fl_2_25, List.forall_mem_cons.mpr ⟨fl_2_29, List.forall_mem_cons.mpr ⟨fl_2_33, List.forall_mem_cons.mpr ⟨fl_4_9, List.forall_mem_cons.mpr ⟨fl_4_15, List.forall_mem_cons.mpr ⟨fl_4_18, List.forall_mem_cons.mpr ⟨fl_4_21, List.forall_mem_cons.mpr ⟨fl_4_24, List.forall_mem_cons.mpr ⟨fl_4_27, List.forall_mem_cons.mpr ⟨fl_4_30, List.forall_mem_cons.mpr ⟨fl_6_9, List.forall_mem_cons.mpr ⟨fl_6_15, List.forall_mem_cons.mpr ⟨fl_6_19, List.forall_mem_cons.mpr ⟨fl_6_22, List.forall_mem_cons.mpr ⟨fl_6_25, List.forall_mem_cons.mpr ⟨fl_6_28, List.forall_mem_cons.mpr ⟨fl_6_32, List.forall_mem_cons.mpr ⟨fl_6_35, List.forall_mem_cons.mpr ⟨fl_6_41, List.forall_mem_cons.mpr ⟨fl_6_44, List.forall_mem_cons.mpr ⟨fl_6_47, List.forall_mem_cons.mpr ⟨fl_6_50, List.forall_mem_cons.mpr ⟨fl_6_53, List.forall_mem_cons.mpr ⟨fl_6_56, List.forall_mem_cons.mpr ⟨fl_6_60, List.forall_mem_cons.mpr ⟨fl_7_12, List.forall_mem_cons.mpr ⟨fl_7_19, List.forall_mem_cons.mpr ⟨fl_7_28, List.forall_mem_cons.mpr ⟨fl_8_7, List.forall_mem_cons.mpr ⟨fl_8_13, List.forall_mem_cons.mpr ⟨fl_8_16, List.forall_mem_cons.mpr ⟨fl_8_19, List.forall_mem_cons.mpr ⟨fl_8_22, List.forall_mem_cons.mpr ⟨fl_8_25, List.forall_mem_cons.mpr ⟨fl_8_28, List.forall_mem_cons.mpr ⟨fl_8_31, List.forall_mem_cons.mpr ⟨fl_8_34, List.forall_mem_cons.mpr ⟨fl_8_38, List.forall_mem_cons.mpr ⟨fl_8_42, List.forall_mem_cons.mpr ⟨fl_8_46, List.forall_mem_cons.mpr ⟨fl_8_49, List.forall_mem_cons.mpr ⟨fl_8_52, List.forall_mem_cons.mpr ⟨fl_8_55, List.forall_mem_cons.mpr ⟨fl_8_58, List.forall_mem_cons.mpr ⟨fl_8_61, List.forall_mem_cons.mpr ⟨fl_8_64, List.forall_mem_cons.mpr ⟨fl_8_67, List.forall_mem_cons.mpr ⟨fl_8_70, List.forall_mem_cons.mpr ⟨fl_8_73, List.forall_mem_cons.mpr ⟨fl_8_76, List.forall_mem_cons.mpr ⟨fl_8_79, List.forall_mem_cons.mpr ⟨fl_8_82, List.forall_mem_cons.mpr ⟨fl_8_85, List.forall_mem_cons.mpr ⟨fl_8_89, List.forall_mem_cons.mpr ⟨fl_8_92, List.forall_mem_cons.mpr ⟨fl_8_95, List.forall_mem_cons.mpr ⟨fl_8_122, List.forall_mem_cons.mpr ⟨fl_8_162, List.forall_mem_cons.mpr ⟨fl_8_169, List.forall_mem_cons.mpr ⟨fl_8_172, List.forall_mem_cons.mpr ⟨fl_8_175, List.forall_mem_cons.mpr ⟨fl_8_178, List.forall_mem_cons.mpr ⟨fl_8_182, List.forall_mem_cons.mpr ⟨fl_8_194, List.forall_mem_cons.mpr ⟨fl_8_199, List.forall_mem_cons.mpr ⟨fl_8_272, List.forall_mem_cons.mpr ⟨fl_8_311, List.forall_mem_nil _⟩⟩⟩⟩⟩⟩⟩⟩⟩⟩⟩⟩⟩⟩⟩⟩⟩⟩⟩⟩⟩⟩⟩⟩⟩⟩⟩⟩⟩⟩⟩⟩⟩⟩⟩⟩⟩⟩⟩⟩⟩⟩⟩⟩⟩⟩⟩⟩⟩⟩⟩⟩⟩⟩⟩⟩⟩⟩⟩⟩⟩⟩⟩⟩⟩⟩⟩⟩⟩⟩⟩
theorem fn_6_84 : x_FN 6 84 1 0 := ⟨(RX4, TX4, 7), "ArrayRules", rfl, Nat.le_of_ble_eq_true rfl, inx4, List.mem_of_getElem? (i := 0) rfl⟩
theorem fn_6_87 : x_FN 6 87 1 1 := ⟨(RX4, TX4, 7), "ArrayRules", rfl, Nat.le_of_ble_eq_true rfl, inx4, List.mem_of_getElem? (i := 1) rfl⟩
theorem fn_6_132 : x_FN 6 132 1 2 := ⟨(RX4, TX4, 7), "ArrayRules", rfl, Nat.le_of_ble_eq_true rfl, inx4, List.mem_of_getElem? (i := 2) rfl⟩
theorem fn_6_159 : x_FN 6 159 1 3 := ⟨(RX4, TX4, 7), "ArrayRules", rfl, Nat.le_of_ble_eq_true rfl, inx4, List.mem_of_getElem? (i := 3) rfl⟩
theorem fn_6_170 : x_FN 6 170 1 4 := ⟨(RX4, TX4, 7), "ArrayRules", rfl, Nat.le_of_ble_eq_true rfl, inx4, List.mem_of_getElem? (i := 4) rfl⟩
theorem fn_7_48 : x_FN 7 48 2 9 := ⟨(RX6, TX6, 15), "ArrayRules", rfl, Nat.le_of_ble_eq_true rfl, inx6, List.mem_of_getElem? (i := 5) rfl⟩
theorem fn_7_52 : x_FN 7 52 2 11 := ⟨(RX6, TX6, 15), "ArrayRules", rfl, Nat.le_of_ble_eq_true rfl, inx6, List.mem_of_getElem? (i := 6) rfl⟩
theorem fn_7_56 : x_FN 7 56 2 12 := ⟨(RX6, TX6, 15), "ArrayRules", rfl, Nat.le_of_ble_eq_true rfl, inx6, List.mem_of_getElem? (i := 7) rfl⟩
theorem fn_7_59 : x_FN 7 59 2 13 := ⟨(RX6, TX6, 15), "ArrayRules", rfl, Nat.le_of_ble_eq_true rfl, inx6, List.mem_of_getElem? (i := 8) rfl⟩
theorem fn_7_68 : x_FN 7 68 2 2 := ⟨(RX6, TX6, 15), "ArrayRules", rfl, Nat.le_of_ble_eq_true rfl, inx6, List.mem_of_getElem? (i := 9) rfl⟩
theorem fn_7_72 : x_FN 7 72 2 3 := ⟨(RX6, TX6, 15), "ArrayRules", rfl, Nat.le_of_ble_eq_true rfl, inx6, List.mem_of_getElem? (i := 10) rfl⟩
theorem fn_7_104 : x_FN 7 104 1 6 := ⟨(RX4, TX4, 7), "ArrayRules", rfl, Nat.le_of_ble_eq_true rfl, inx4, List.mem_of_getElem? (i := 11) rfl⟩
theorem fn_7_107 : x_FN 7 107 0 5 := ⟨(RX2, TX2, 7), "ArrayRules", rfl, Nat.le_of_ble_eq_true rfl, inx2, List.mem_of_getElem? (i := 12) rfl⟩
theorem fn_7_110 : x_FN 7 110 0 6 := ⟨(RX2, TX2, 7), "ArrayRules", rfl, Nat.le_of_ble_eq_true rfl, inx2, List.mem_of_getElem? (i := 13) rfl⟩
def x_fns : List (Nat × Nat × Nat × Nat) := [(6, 84, 1, 0), (6, 87, 1, 1), (6, 132, 1, 2), (6, 159, 1, 3), (6, 170, 1, 4), (7, 48, 2, 9), (7, 52, 2, 11), (7, 56, 2, 12), (7, 59, 2, 13), (7, 68, 2, 2), (7, 72, 2, 3), (7, 104, 1, 6), (7, 107, 0, 5), (7, 110, 0, 6)]
theorem x_fns_ok : ∀ q ∈ x_fns, x_FN q.1 q.2.1 q.2.2.1 q.2.2.2 := List.forall_mem_cons.mpr ⟨fn_6_84, List.forall_mem_cons.mpr ⟨fn_6_87, List.forall_mem_cons.mpr ⟨fn_6_132, List.forall_mem_cons.mpr ⟨fn_6_159, List.forall_mem_cons.mpr ⟨fn_6_170, List.forall_mem_cons.mpr ⟨fn_7_48, List.forall_mem_cons.mpr ⟨fn_7_52, List.forall_mem_cons.mpr ⟨fn_7_56, List.forall_mem_cons.mpr ⟨fn_7_59, List.forall_mem_cons.mpr ⟨fn_7_68, List.forall_mem_cons.mpr ⟨fn_7_72, List.forall_mem_cons.mpr ⟨fn_7_104, List.forall_mem_cons.mpr ⟨fn_7_107, List.forall_mem_cons.mpr ⟨fn_7_110, List.forall_mem_nil _⟩⟩⟩⟩⟩⟩⟩⟩⟩⟩⟩⟩⟩⟩
theorem pf_2_5 : x_PF 0 5 (.int 0) := ⟨(RX2, TX2, 7), tyX2, rfl, tyX2_ok, nmX2, rfl, by decide +kernel⟩
theorem pf_2_6 : x_PF 0 6 (.int 0) := ⟨(RX2, TX2, 7), tyX2, rfl, tyX2_ok, nmX2, rfl, by decide +kernel⟩
theorem pf_4_6 : x_PF 1 6 (.int 0) := ⟨(RX4, TX4, 7), tyX4, rfl, tyX4_ok, nmX4, rfl, by decide +kernel⟩
theorem pf_6_7 : x_PF 2 7 (.int 0) := ⟨(RX6, TX6, 15), tyX6, rfl, tyX6_ok, nmX6, rfl, by decide +kernel⟩
theorem pf_6_8 : x_PF 2 8 (.int 0) := ⟨(RX6, TX6, 15), tyX6, rfl, tyX6_ok, nmX6, rfl, by decide +kernel⟩
theorem pf_6_9 : x_PF 2 9 (.long 0) := ⟨(RX6, TX6, 15), tyX6, rfl, tyX6_ok, nmX6, rfl, by decide +kernel⟩
theorem pf_6_10 : x_PF 2 10 (.int 0) := ⟨(RX6, TX6, 15), tyX6, rfl, tyX6_ok, nmX6, rfl, by decide +kernel⟩
theorem pf_6_11 : x_PF 2 11 (.int 0) := ⟨(RX6, TX6, 15), tyX6, rfl, tyX6_ok, nmX6, rfl, by decide +kernel⟩
theorem pf_6_12 : x_PF 2 12 (.int 0) := ⟨(RX6, TX6, 15), tyX6, rfl, tyX6_ok, nmX6, rfl, by decide +kernel⟩
theorem pf_6_13 : x_PF 2 13 (.int 0) := ⟨(RX6, TX6, 15), tyX6, rfl, tyX6_ok, nmX6, rfl, by decide +kernel⟩
theorem pf_6_14 : x_PF 2 14 (.int 0) := ⟨(RX6, TX6, 15), tyX6, rfl, tyX6_ok, nmX6, rfl, by decide +kernel⟩
theorem pf_8_0 : x_PF 4 0 (.int 0) := ⟨(RX8, TX8, 39), tyX8, rfl, tyX8_ok, nmX8, rfl, by decide +kernel⟩
theorem pf_8_6 : x_PF 4 6 (.int 0) := ⟨(RX8, TX8, 39), tyX8, rfl, tyX8_ok, nmX8, rfl, by decide +kernel⟩
theorem pf_8_10 : x_PF 4 10 (.int 0) := ⟨(RX8, TX8, 39), tyX8, rfl, tyX8_ok, nmX8, rfl, by decide +kernel⟩
theorem pf_8_15 : x_PF 4 15 (.int 0) := ⟨(RX8, TX8, 39), tyX8, rfl, tyX8_ok, nmX8, rfl, by decide +kernel⟩
theorem pf_8_26 : x_PF 4 26 (.int 0) := ⟨(RX8, TX8, 39), tyX8, rfl, tyX8_ok, nmX8, rfl, by decide +kernel⟩
theorem pf_8_29 : x_PF 4 29 (.null) := ⟨(RX8, TX8, 39), tyX8, rfl, tyX8_ok, nmX8, rfl, by decide +kernel⟩
theorem pf_8_30 : x_PF 4 30 (.long 0) := ⟨(RX8, TX8, 39), tyX8, rfl, tyX8_ok, nmX8, rfl, by decide +kernel⟩
theorem pf_8_31 : x_PF 4 31 (.int 0) := ⟨(RX8, TX8, 39), tyX8, rfl, tyX8_ok, nmX8, rfl, by decide +kernel⟩
theorem pf_8_32 : x_PF 4 32 (.int 0) := ⟨(RX8, TX8, 39), tyX8, rfl, tyX8_ok, nmX8, rfl, by decide +kernel⟩
theorem pf_8_33 : x_PF 4 33 (.int 0) := ⟨(RX8, TX8, 39), tyX8, rfl, tyX8_ok, nmX8, rfl, by decide +kernel⟩
theorem pf_8_34 : x_PF 4 34 (.int 0) := ⟨(RX8, TX8, 39), tyX8, rfl, tyX8_ok, nmX8, rfl, by decide +kernel⟩
theorem pf_8_35 : x_PF 4 35 (.int 0) := ⟨(RX8, TX8, 39), tyX8, rfl, tyX8_ok, nmX8, rfl, by decide +kernel⟩
def x_pfs : List (Nat × Nat × Value) := [(0, 5, .int 0), (0, 6, .int 0), (1, 6, .int 0), (2, 7, .int 0), (2, 8, .int 0), (2, 9, .long 0), (2, 10, .int 0), (2, 11, .int 0), (2, 12, .int 0), (2, 13, .int 0), (2, 14, .int 0), (4, 0, .int 0), (4, 6, .int 0), (4, 10, .int 0), (4, 15, .int 0), (4, 26, .int 0), (4, 29, .null), (4, 30, .long 0), (4, 31, .int 0), (4, 32, .int 0), (4, 33, .int 0), (4, 34, .int 0), (4, 35, .int 0)]
theorem x_pfs_ok : ∀ q ∈ x_pfs, x_PF q.1 q.2.1 q.2.2 := List.forall_mem_cons.mpr ⟨pf_2_5, List.forall_mem_cons.mpr ⟨pf_2_6, List.forall_mem_cons.mpr ⟨pf_4_6, List.forall_mem_cons.mpr ⟨pf_6_7, List.forall_mem_cons.mpr ⟨pf_6_8, List.forall_mem_cons.mpr ⟨pf_6_9, List.forall_mem_cons.mpr ⟨pf_6_10, List.forall_mem_cons.mpr ⟨pf_6_11, List.forall_mem_cons.mpr ⟨pf_6_12, List.forall_mem_cons.mpr ⟨pf_6_13, List.forall_mem_cons.mpr ⟨pf_6_14, List.forall_mem_cons.mpr ⟨pf_8_0, List.forall_mem_cons.mpr ⟨pf_8_6, List.forall_mem_cons.mpr ⟨pf_8_10, List.forall_mem_cons.mpr ⟨pf_8_15, List.forall_mem_cons.mpr ⟨pf_8_26, List.forall_mem_cons.mpr ⟨pf_8_29, List.forall_mem_cons.mpr ⟨pf_8_30, List.forall_mem_cons.mpr ⟨pf_8_31, List.forall_mem_cons.mpr ⟨pf_8_32, List.forall_mem_cons.mpr ⟨pf_8_33, List.forall_mem_cons.mpr ⟨pf_8_34, List.forall_mem_cons.mpr ⟨pf_8_35, List.forall_mem_nil _⟩⟩⟩⟩⟩⟩⟩⟩⟩⟩⟩⟩⟩⟩⟩⟩⟩⟩⟩⟩⟩⟩⟩
theorem ml_2_36 : x_ML 2 36 1 := ⟨_, rfl, x_t2 (i := 69) rfl rfl⟩
theorem ml_2_40 : x_ML 2 40 0 := ⟨_, rfl, x_t2 (i := 81) rfl rfl⟩
theorem ml_2_45 : x_ML 2 45 5 := ⟨_, rfl, x_t2 (i := 73) rfl rfl⟩
theorem ml_2_49 : x_ML 2 49 43 := ⟨_, rfl, x_t2 (i := 41) rfl rfl⟩
theorem ml_2_52 : x_ML 2 52 8 := ⟨_, rfl, x_t2 (i := 135) rfl rfl⟩
theorem ml_2_58 : x_ML 2 58 2 := ⟨_, rfl, x_t2 (i := 65) rfl rfl⟩
theorem ml_2_62 : x_ML 2 62 9 := ⟨_, rfl, x_t3 (i := 58) rfl rfl⟩
theorem ml_2_66 : x_ML 2 66 27 := ⟨_, rfl, x_t3 (i := 59) rfl rfl⟩
theorem ml_2_72 : x_ML 2 72 28 := ⟨_, rfl, x_t3 (i := 67) rfl rfl⟩
theorem ml_2_75 : x_ML 2 75 4 := ⟨_, rfl, x_t2 (i := 177) rfl rfl⟩
theorem ml_2_78 : x_ML 2 78 7 := ⟨_, rfl, x_t3 (i := 44) rfl rfl⟩
theorem ml_2_82 : x_ML 2 82 25 := ⟨_, rfl, x_t2 (i := 13) rfl rfl⟩
theorem ml_2_86 : x_ML 2 86 24 := ⟨_, rfl, x_t2 (i := 33) rfl rfl⟩
theorem ml_2_90 : x_ML 2 90 13 := ⟨_, rfl, x_t2 (i := 37) rfl rfl⟩
theorem ml_2_93 : x_ML 2 93 23 := ⟨_, rfl, x_t2 (i := 43) rfl rfl⟩
theorem ml_2_96 : x_ML 2 96 3 := ⟨_, rfl, x_t2 (i := 77) rfl rfl⟩
theorem ml_2_99 : x_ML 2 99 21 := ⟨_, rfl, x_t2 (i := 178) rfl rfl⟩
theorem ml_2_105 : x_ML 2 105 45 := ⟨_, rfl, x_t2 (i := 85) rfl rfl⟩
theorem ml_2_108 : x_ML 2 108 22 := ⟨_, rfl, x_t2 (i := 88) rfl rfl⟩
theorem ml_2_112 : x_ML 2 112 26 := ⟨_, rfl, x_t2 (i := 92) rfl rfl⟩
theorem ml_2_116 : x_ML 2 116 6 := ⟨_, rfl, x_t2 (i := 197) rfl rfl⟩
theorem ml_2_119 : x_ML 2 119 20 := ⟨_, rfl, x_t2 (i := 198) rfl rfl⟩
theorem ml_2_122 : x_ML 2 122 19 := ⟨_, rfl, x_t2 (i := 202) rfl rfl⟩
theorem ml_3_9 : x_ML 3 9 29 := ⟨_, rfl, x_t3 (i := 62) rfl rfl⟩
theorem ml_4_34 : x_ML 4 34 36 := ⟨_, rfl, x_t1 (i := 160) rfl rfl⟩
theorem ml_4_40 : x_ML 4 40 34 := ⟨_, rfl, x_t1 (i := 175) rfl rfl⟩
theorem ml_4_44 : x_ML 4 44 32 := ⟨_, rfl, x_t1 (i := 167) rfl rfl⟩
theorem ml_4_48 : x_ML 4 48 33 := ⟨_, rfl, x_t1 (i := 179) rfl rfl⟩
theorem ml_4_54 : x_ML 4 54 39 := ⟨_, rfl, x_t1 (i := 171) rfl rfl⟩
theorem ml_4_58 : x_ML 4 58 40 := ⟨_, rfl, x_t1 (i := 183) rfl rfl⟩
theorem ml_4_61 : x_ML 4 61 37 := ⟨_, rfl, x_t1 (i := 187) rfl rfl⟩
theorem ml_4_64 : x_ML 4 64 44 := ⟨_, rfl, x_t1 (i := 191) rfl rfl⟩
theorem ml_4_69 : x_ML 4 69 42 := ⟨_, rfl, x_t1 (i := 194) rfl rfl⟩
theorem ml_4_72 : x_ML 4 72 38 := ⟨_, rfl, x_t1 (i := 200) rfl rfl⟩
theorem ml_4_76 : x_ML 4 76 41 := ⟨_, rfl, x_t1 (i := 204) rfl rfl⟩
theorem ml_4_79 : x_ML 4 79 43 := ⟨_, rfl, x_t1 (i := 205) rfl rfl⟩
theorem ml_5_9 : x_ML 5 9 41 := ⟨_, rfl, x_t1 (i := 197) rfl rfl⟩
theorem ml_6_64 : x_ML 6 64 48 := ⟨_, rfl, x_t1 (i := 225) rfl rfl⟩
theorem ml_6_68 : x_ML 6 68 74 := ⟨_, rfl, x_t1 (i := 235) rfl rfl⟩
theorem ml_6_72 : x_ML 6 72 32 := ⟨_, rfl, x_t1 (i := 229) rfl rfl⟩
theorem ml_6_78 : x_ML 6 78 58 := ⟨_, rfl, x_t1 (i := 230) rfl rfl⟩
theorem ml_6_81 : x_ML 6 81 33 := ⟨_, rfl, x_t1 (i := 234) rfl rfl⟩
theorem ml_6_92 : x_ML 6 92 73 := ⟨_, rfl, x_t1 (i := 239) rfl rfl⟩
theorem ml_6_96 : x_ML 6 96 76 := ⟨_, rfl, x_t2 (i := 4) rfl rfl⟩
theorem ml_6_99 : x_ML 6 99 12 := ⟨_, rfl, x_t2 (i := 9) rfl rfl⟩
theorem ml_6_105 : x_ML 6 105 78 := ⟨_, rfl, x_t2 (i := 17) rfl rfl⟩
theorem ml_6_108 : x_ML 6 108 51 := ⟨_, rfl, x_t2 (i := 21) rfl rfl⟩
theorem ml_6_111 : x_ML 6 111 52 := ⟨_, rfl, x_t2 (i := 47) rfl rfl⟩
theorem ml_6_114 : x_ML 6 114 53 := ⟨_, rfl, x_t2 (i := 95) rfl rfl⟩
theorem ml_6_117 : x_ML 6 117 54 := ⟨_, rfl, x_t2 (i := 113) rfl rfl⟩
theorem ml_6_120 : x_ML 6 120 56 := ⟨_, rfl, x_t2 (i := 165) rfl rfl⟩
theorem ml_6_123 : x_ML 6 123 57 := ⟨_, rfl, x_t2 (i := 189) rfl rfl⟩
theorem ml_6_126 : x_ML 6 126 50 := ⟨_, rfl, x_t2 (i := 206) rfl rfl⟩
theorem ml_6_129 : x_ML 6 129 49 := ⟨_, rfl, x_t2 (i := 218) rfl rfl⟩
theorem ml_6_135 : x_ML 6 135 61 := ⟨_, rfl, x_t2 (i := 185) rfl rfl⟩
theorem ml_6_139 : x_ML 6 139 60 := ⟨_, rfl, x_t2 (i := 222) rfl rfl⟩
theorem ml_6_143 : x_ML 6 143 66 := ⟨_, rfl, x_t2 (i := 226) rfl rfl⟩
theorem ml_6_146 : x_ML 6 146 69 := ⟨_, rfl, x_t2 (i := 232) rfl rfl⟩
theorem ml_6_149 : x_ML 6 149 67 := ⟨_, rfl, x_t2 (i := 103) rfl rfl⟩
theorem ml_6_152 : x_ML 6 152 75 := ⟨_, rfl, x_t2 (i := 214) rfl rfl⟩
theorem ml_6_156 : x_ML 6 156 68 := ⟨_, rfl, x_t2 (i := 25) rfl rfl⟩
theorem ml_6_162 : x_ML 6 162 59 := ⟨_, rfl, x_t2 (i := 236) rfl rfl⟩
theorem ml_6_167 : x_ML 6 167 79 := ⟨_, rfl, x_t2 (i := 210) rfl rfl⟩
theorem ml_6_173 : x_ML 6 173 14 := ⟨_, rfl, x_t2 (i := 29) rfl rfl⟩
theorem ml_6_177 : x_ML 6 177 34 := ⟨_, rfl, x_t2 (i := 51) rfl rfl⟩
theorem ml_6_180 : x_ML 6 180 13 := ⟨_, rfl, x_t2 (i := 52) rfl rfl⟩
theorem ml_6_184 : x_ML 6 184 35 := ⟨_, rfl, x_t2 (i := 53) rfl rfl⟩
theorem ml_6_187 : x_ML 6 187 64 := ⟨_, rfl, x_t2 (i := 57) rfl rfl⟩
theorem ml_6_191 : x_ML 6 191 62 := ⟨_, rfl, x_t2 (i := 99) rfl rfl⟩
theorem ml_6_194 : x_ML 6 194 63 := ⟨_, rfl, x_t2 (i := 109) rfl rfl⟩
theorem ml_6_197 : x_ML 6 197 70 := ⟨_, rfl, x_t2 (i := 117) rfl rfl⟩
theorem ml_6_200 : x_ML 6 200 71 := ⟨_, rfl, x_t2 (i := 122) rfl rfl⟩
theorem ml_6_203 : x_ML 6 203 77 := ⟨_, rfl, x_t2 (i := 127) rfl rfl⟩
theorem ml_6_206 : x_ML 6 206 55 := ⟨_, rfl, x_t2 (i := 140) rfl rfl⟩
theorem ml_6_210 : x_ML 6 210 65 := ⟨_, rfl, x_t2 (i := 161) rfl rfl⟩
theorem ml_6_213 : x_ML 6 213 72 := ⟨_, rfl, x_t2 (i := 144) rfl rfl⟩
theorem ml_6_216 : x_ML 6 216 8 := ⟨_, rfl, x_t2 (i := 139) rfl rfl⟩
theorem ml_6_220 : x_ML 6 220 9 := ⟨_, rfl, x_t2 (i := 153) rfl rfl⟩
theorem ml_6_224 : x_ML 6 224 17 := ⟨_, rfl, x_t2 (i := 157) rfl rfl⟩
theorem ml_6_228 : x_ML 6 228 4 := ⟨_, rfl, x_t2 (i := 169) rfl rfl⟩
theorem ml_6_231 : x_ML 6 231 15 := ⟨_, rfl, x_t2 (i := 173) rfl rfl⟩
theorem ml_6_234 : x_ML 6 234 7 := ⟨_, rfl, x_t2 (i := 131) rfl rfl⟩
theorem ml_6_237 : x_ML 6 237 18 := ⟨_, rfl, x_t2 (i := 193) rfl rfl⟩
theorem ml_6_244 : x_ML 6 244 16 := ⟨_, rfl, x_t2 (i := 61) rfl rfl⟩
theorem ml_6_247 : x_ML 6 247 43 := ⟨_, rfl, x_t2 (i := 230) rfl rfl⟩
theorem ml_6_252 : x_ML 6 252 26 := ⟨_, rfl, x_t2 (i := 231) rfl rfl⟩
theorem ml_6_258 : x_ML 6 258 3 := ⟨_, rfl, x_t2 (i := 107) rfl rfl⟩
theorem ml_6_261 : x_ML 6 261 45 := ⟨_, rfl, x_t2 (i := 108) rfl rfl⟩
theorem ml_6_264 : x_ML 6 264 1 := ⟨_, rfl, x_t2 (i := 121) rfl rfl⟩
theorem ml_6_267 : x_ML 6 267 2 := ⟨_, rfl, x_t2 (i := 126) rfl rfl⟩
theorem ml_6_270 : x_ML 6 270 6 := ⟨_, rfl, x_t2 (i := 148) rfl rfl⟩
theorem ml_6_273 : x_ML 6 273 5 := ⟨_, rfl, x_t2 (i := 152) rfl rfl⟩
theorem ml_7_32 : x_ML 7 32 30 := ⟨_, rfl, x_t1 (i := 156) rfl rfl⟩
theorem ml_7_36 : x_ML 7 36 31 := ⟨_, rfl, x_t1 (i := 212) rfl rfl⟩
theorem ml_7_40 : x_ML 7 40 32 := ⟨_, rfl, x_t1 (i := 220) rfl rfl⟩
theorem ml_7_44 : x_ML 7 44 46 := ⟨_, rfl, x_t1 (i := 221) rfl rfl⟩
theorem ml_7_62 : x_ML 7 62 47 := ⟨_, rfl, x_t3 (i := 20) rfl rfl⟩
theorem ml_7_65 : x_ML 7 65 95 := ⟨_, rfl, x_t3 (i := 28) rfl rfl⟩
theorem ml_7_76 : x_ML 7 76 0 := ⟨_, rfl, x_t3 (i := 37) rfl rfl⟩
theorem ml_7_79 : x_ML 7 79 3 := ⟨_, rfl, x_t3 (i := 38) rfl rfl⟩
theorem ml_7_82 : x_ML 7 82 4 := ⟨_, rfl, x_t3 (i := 39) rfl rfl⟩
theorem ml_7_85 : x_ML 7 85 11 := ⟨_, rfl, x_t3 (i := 40) rfl rfl⟩
theorem ml_7_88 : x_ML 7 88 8 := ⟨_, rfl, x_t3 (i := 49) rfl rfl⟩
theorem ml_7_92 : x_ML 7 92 10 := ⟨_, rfl, x_t3 (i := 54) rfl rfl⟩
theorem ml_7_95 : x_ML 7 95 41 := ⟨_, rfl, x_t3 (i := 74) rfl rfl⟩
theorem ml_7_100 : x_ML 7 100 45 := ⟨_, rfl, x_t3 (i := 75) rfl rfl⟩
theorem ml_8_98 : x_ML 8 98 97 := ⟨_, rfl, x_t3 (i := 209) rfl rfl⟩
theorem ml_8_102 : x_ML 8 102 99 := ⟨_, rfl, x_t3 (i := 212) rfl rfl⟩
theorem ml_8_108 : x_ML 8 108 102 := ⟨_, rfl, x_t4 (i := 93) rfl rfl⟩
theorem ml_8_125 : x_ML 8 125 96 := ⟨_, rfl, x_t3 (i := 227) rfl rfl⟩
theorem ml_8_129 : x_ML 8 129 104 := ⟨_, rfl, x_t3 (i := 230) rfl rfl⟩
theorem ml_8_134 : x_ML 8 134 107 := ⟨_, rfl, x_t3 (i := 238) rfl rfl⟩
theorem ml_8_137 : x_ML 8 137 106 := ⟨_, rfl, x_t3 (i := 223) rfl rfl⟩
theorem ml_8_140 : x_ML 8 140 108 := ⟨_, rfl, x_t3 (i := 234) rfl rfl⟩
theorem ml_8_144 : x_ML 8 144 105 := ⟨_, rfl, x_t4 (i := 1) rfl rfl⟩
theorem ml_8_147 : x_ML 8 147 98 := ⟨_, rfl, x_t4 (i := 5) rfl rfl⟩
theorem ml_8_150 : x_ML 8 150 117 := ⟨_, rfl, x_t4 (i := 8) rfl rfl⟩
theorem ml_8_158 : x_ML 8 158 109 := ⟨_, rfl, x_t3 (i := 219) rfl rfl⟩
theorem ml_8_165 : x_ML 8 165 112 := ⟨_, rfl, x_t4 (i := 26) rfl rfl⟩
theorem ml_8_186 : x_ML 8 186 114 := ⟨_, rfl, x_t4 (i := 46) rfl rfl⟩
theorem ml_8_190 : x_ML 8 190 113 := ⟨_, rfl, x_t4 (i := 22) rfl rfl⟩
theorem ml_8_206 : x_ML 8 206 124 := ⟨_, rfl, x_t4 (i := 89) rfl rfl⟩
theorem ml_8_210 : x_ML 8 210 126 := ⟨_, rfl, x_t4 (i := 96) rfl rfl⟩
theorem ml_8_214 : x_ML 8 214 101 := ⟨_, rfl, x_t4 (i := 100) rfl rfl⟩
theorem ml_8_218 : x_ML 8 218 121 := ⟨_, rfl, x_t4 (i := 116) rfl rfl⟩
theorem ml_8_222 : x_ML 8 222 116 := ⟨_, rfl, x_t4 (i := 34) rfl rfl⟩
theorem ml_8_225 : x_ML 8 225 129 := ⟨_, rfl, x_t4 (i := 59) rfl rfl⟩
theorem ml_8_228 : x_ML 8 228 115 := ⟨_, rfl, x_t4 (i := 42) rfl rfl⟩
theorem ml_8_232 : x_ML 8 232 119 := ⟨_, rfl, x_t4 (i := 67) rfl rfl⟩
theorem ml_8_236 : x_ML 8 236 120 := ⟨_, rfl, x_t4 (i := 73) rfl rfl⟩
theorem ml_8_240 : x_ML 8 240 125 := ⟨_, rfl, x_t4 (i := 85) rfl rfl⟩
theorem ml_8_243 : x_ML 8 243 118 := ⟨_, rfl, x_t4 (i := 104) rfl rfl⟩
theorem ml_8_246 : x_ML 8 246 123 := ⟨_, rfl, x_t4 (i := 132) rfl rfl⟩
theorem ml_8_249 : x_ML 8 249 128 := ⟨_, rfl, x_t4 (i := 112) rfl rfl⟩
theorem ml_8_252 : x_ML 8 252 134 := ⟨_, rfl, x_t4 (i := 128) rfl rfl⟩
theorem ml_8_255 : x_ML 8 255 136 := ⟨_, rfl, x_t4 (i := 136) rfl rfl⟩
theorem ml_8_258 : x_ML 8 258 127 := ⟨_, rfl, x_t4 (i := 140) rfl rfl⟩
theorem ml_8_262 : x_ML 8 262 122 := ⟨_, rfl, x_t4 (i := 152) rfl rfl⟩
theorem ml_8_265 : x_ML 8 265 139 := ⟨_, rfl, x_t4 (i := 120) rfl rfl⟩
theorem ml_8_268 : x_ML 8 268 142 := ⟨_, rfl, x_t4 (i := 164) rfl rfl⟩
theorem ml_8_275 : x_ML 8 275 144 := ⟨_, rfl, x_t4 (i := 51) rfl rfl⟩
theorem ml_8_278 : x_ML 8 278 130 := ⟨_, rfl, x_t4 (i := 55) rfl rfl⟩
theorem ml_8_281 : x_ML 8 281 145 := ⟨_, rfl, x_t4 (i := 63) rfl rfl⟩
theorem ml_8_284 : x_ML 8 284 131 := ⟨_, rfl, x_t4 (i := 77) rfl rfl⟩
theorem ml_8_287 : x_ML 8 287 132 := ⟨_, rfl, x_t4 (i := 81) rfl rfl⟩
theorem ml_8_290 : x_ML 8 290 138 := ⟨_, rfl, x_t4 (i := 108) rfl rfl⟩
theorem ml_8_293 : x_ML 8 293 135 := ⟨_, rfl, x_t4 (i := 124) rfl rfl⟩
theorem ml_8_296 : x_ML 8 296 140 := ⟨_, rfl, x_t4 (i := 144) rfl rfl⟩
theorem ml_8_299 : x_ML 8 299 137 := ⟨_, rfl, x_t4 (i := 148) rfl rfl⟩
theorem ml_8_302 : x_ML 8 302 133 := ⟨_, rfl, x_t4 (i := 156) rfl rfl⟩
theorem ml_8_305 : x_ML 8 305 141 := ⟨_, rfl, x_t4 (i := 160) rfl rfl⟩
theorem ml_8_308 : x_ML 8 308 143 := ⟨_, rfl, x_t4 (i := 168) rfl rfl⟩
theorem ml_8_314 : x_ML 8 314 147 := ⟨_, rfl, x_t4 (i := 30) rfl rfl⟩
theorem ml_8_317 : x_ML 8 317 146 := ⟨_, rfl, x_t4 (i := 38) rfl rfl⟩
theorem ml_8_322 : x_ML 8 322 103 := ⟨_, rfl, x_t4 (i := 213) rfl rfl⟩
theorem ml_8_326 : x_ML 8 326 157 := ⟨_, rfl, x_t4 (i := 221) rfl rfl⟩
def x_mls : List (Nat × Nat × Nat) := [(2, 36, 1), (2, 40, 0), (2, 45, 5), (2, 49, 43), (2, 52, 8), (2, 58, 2), (2, 62, 9), (2, 66, 27), (2, 72, 28), (2, 75, 4), (2, 78, 7), (2, 82, 25), (2, 86, 24), (2, 90, 13), (2, 93, 23), (2, 96, 3), (2, 99, 21), (2, 105, 45), (2, 108, 22), (2, 112, 26), (2, 116, 6), (2, 119, 20), (2, 122, 19), (3, 9, 29), (4, 34, 36), (4, 40, 34), (4, 44, 32), (4, 48, 33), (4, 54, 39), (4, 58, 40), (4, 61, 37), (4, 64, 44), (4, 69, 42), (4, 72, 38), (4, 76, 41), (4, 79, 43), (5, 9, 41), (6, 64, 48), (6, 68, 74), (6, 72, 32), (6, 78, 58), (6, 81, 33), (6, 92, 73), (6, 96, 76), (6, 99, 12), (6, 105, 78), (6, 108, 51), (6, 111, 52), (6, 114, 53), (6, 117, 54), (6, 120, 56), (6, 123, 57), (6, 126, 50), (6, 129, 49), (6, 135, 61), (6, 139, 60), (6, 143, 66), (6, 146, 69), (6, 149, 67), (6, 152, 75), (6, 156, 68), (6, 162, 59), (6, 167, 79), (6, 173, 14), (6, 177, 34), (6, 180, 13), (6, 184, 35), (6, 187, 64), (6, 191, 62), (6, 194, 63), (6, 197, 70), (6, 200, 71), (6, 203, 77), (6, 206, 55), (6, 210, 65), (6, 213, 72), (6, 216, 8), (6, 220, 9), (6, 224, 17), (6, 228, 4), (6, 231, 15), (6, 234, 7), (6, 237, 18), (6, 244, 16), (6, 247, 43), (6, 252, 26), (6, 258, 3), (6, 261, 45), (6, 264, 1), (6, 267, 2), (6, 270, 6), (6, 273, 5), (7, 32, 30), (7, 36, 31), (7, 40, 32), (7, 44, 46), (7, 62, 47), (7, 65, 95), (7, 76, 0), (7, 79, 3), (7, 82, 4), (7, 85, 11), (7, 88, 8), (7, 92, 10), (7, 95, 41), (7, 100, 45), (8, 98, 97), (8, 102, 99), (8, 108, 102), (8, 125, 96), (8, 129, 104), (8, 134, 107), (8, 137, 106), (8, 140, 108), (8, 144, 105), (8, 147, 98), (8, 150, 117), (8, 158, 109), (8, 165, 112), (8, 186, 114), (8, 190, 113), (8, 206, 124), (8, 210, 126), (8, 214, 101), (8, 218, 121), (8, 222, 116), (8, 225, 129), (8, 228, 115), (8, 232, 119), (8, 236, 120), (8, 240, 125), (8, 243, 118), (8, 246, 123), (8, 249, 128), (8, 252, 134), (8, 255, 136), (8, 258, 127), (8, 262, 122), (8, 265, 139), (8, 268, 142), (8, 275, 144), (8, 278, 130), (8, 281, 145), (8, 284, 131), (8, 287, 132), (8, 290, 138), (8, 293, 135), (8, 296, 140), (8, 299, 137), (8, 302, 133), (8, 305, 141), (8, 308, 143), (8, 314, 147), (8, 317, 146), (8, 322, 103), (8, 326, 157)]
theorem x_mls_ok : ∀ q ∈ x_mls, x_ML q.1 q.2.1 q.2.2 := List.forall_mem_cons.mpr ⟨ml_2_36, List.forall_mem_cons.mpr ⟨ml_2_40, List.forall_mem_cons.mpr ⟨ml_2_45, List.forall_mem_cons.mpr ⟨ml_2_49, List.forall_mem_cons.mpr ⟨ml_2_52, List.forall_mem_cons.mpr ⟨ml_2_58, List.forall_mem_cons.mpr ⟨ml_2_62, List.forall_mem_cons.mpr ⟨ml_2_66, List.forall_mem_cons.mpr ⟨ml_2_72, List.forall_mem_cons.mpr ⟨ml_2_75, List.forall_mem_cons.mpr ⟨ml_2_78, List.forall_mem_cons.mpr ⟨ml_2_82, List.forall_mem_cons.mpr ⟨ml_2_86, List.forall_mem_cons.mpr ⟨ml_2_90, List.forall_mem_cons.mpr ⟨ml_2_93, List.forall_mem_cons.mpr ⟨ml_2_96, List.forall_mem_cons.mpr ⟨ml_2_99, List.forall_mem_cons.mpr ⟨ml_2_105, List.forall_mem_cons.mpr ⟨ml_2_108, List.forall_mem_cons.mpr ⟨ml_2_112, List.forall_mem_cons.mpr ⟨ml_2_116, List.forall_mem_cons.mpr ⟨ml_2_119, List.forall_mem_cons.mpr ⟨ml_2_122, List.forall_mem_cons.mpr ⟨ml_3_9, List.forall_mem_cons.mpr ⟨ml_4_34, List.forall_mem_cons.mpr ⟨ml_4_40, List.forall_mem_cons.mpr ⟨ml_4_44, List.forall_mem_cons.mpr ⟨ml_4_48, List.forall_mem_cons.mpr ⟨ml_4_54, List.forall_mem_cons.mpr ⟨ml_4_58, List.forall_mem_cons.mpr ⟨ml_4_61, List.forall_mem_cons.mpr ⟨ml_4_64, List.forall_mem_cons.mpr ⟨ml_4_69, List.forall_mem_cons.mpr ⟨ml_4_72, List.forall_mem_cons.mpr ⟨ml_4_76, List.forall_mem_cons.mpr ⟨ml_4_79, List.forall_mem_cons.mpr ⟨ml_5_9, List.forall_mem_cons.mpr ⟨ml_6_64, List.forall_mem_cons.mpr ⟨ml_6_68, List.forall_mem_cons.mpr ⟨ml_6_72, List.forall_mem_cons.mpr ⟨ml_6_78, List.forall_mem_cons.mpr ⟨ml_6_81, List.forall_mem_cons.mpr ⟨ml_6_92, List.forall_mem_cons.mpr ⟨ml_6_96, List.forall_mem_cons.mpr ⟨ml_6_99, List.forall_mem_cons.mpr ⟨ml_6_105, List.forall_mem_cons.mpr ⟨ml_6_108, List.forall_mem_cons.mpr ⟨ml_6_111, List.forall_mem_cons.mpr ⟨ml_6_114, List.forall_mem_cons.mpr ⟨ml_6_117, List.forall_mem_cons.mpr ⟨ml_6_120, List.forall_mem_cons.mpr ⟨ml_6_123, List.forall_mem_cons.mpr ⟨ml_6_126, List.forall_mem_cons.mpr ⟨ml_6_129, List.forall_mem_cons.mpr ⟨ml_6_135, List.forall_mem_cons.mpr ⟨ml_6_139, List.forall_mem_cons.mpr ⟨ml_6_143, List.forall_mem_cons.mpr ⟨ml_6_146, List.forall_mem_cons.mpr ⟨ml_6_149, List.forall_mem_cons.mpr ⟨ml_6_152, List.forall_mem_cons.mpr ⟨ml_6_156, List.forall_mem_cons.mpr ⟨ml_6_162, List.forall_mem_cons.mpr ⟨ml_6_167, List.forall_mem_cons.mpr ⟨ml_6_173, List.forall_mem_cons.mpr ⟨ml_6_177, List.forall_mem_cons.mpr ⟨ml_6_180, List.forall_mem_cons.mpr ⟨ml_6_184, List.forall_mem_cons.mpr ⟨ml_6_187, List.forall_mem_cons.mpr ⟨ml_6_191, List.forall_mem_cons.mpr ⟨ml_6_194, List.forall_mem_cons.mpr ⟨ml_6_197, List.forall_mem_cons.mpr ⟨ml_6_200, List.forall_mem_cons.mpr ⟨ml_6_203, List.forall_mem_cons.mpr ⟨ml_6_206, List.forall_mem_cons.mpr ⟨ml_6_210, List.forall_mem_cons.mpr ⟨ml_6_213, List.forall_mem_cons.mpr ⟨ml_6_216, List.forall_mem_cons.mpr ⟨ml_6_220, List.forall_mem_cons.mpr ⟨ml_6_224, List.forall_mem_cons.mpr ⟨ml_6_228, List.forall_mem_cons.mpr ⟨ml_6_231, List.forall_mem_cons.mpr ⟨ml_6_234, List.forall_mem_cons.mpr ⟨ml_6_237, List.forall_mem_cons.mpr ⟨ml_6_244, List.forall_mem_cons.mpr ⟨ml_6_247, List.forall_mem_cons.mpr ⟨ml_6_252, List.forall_mem_cons.mpr ⟨ml_6_258, List.forall_mem_cons.mpr ⟨ml_6_261, List.forall_mem_cons.mpr ⟨ml_6_264, List.forall_mem_cons.mpr ⟨ml_6_267, List.forall_mem_cons.mpr ⟨ml_6_270, List.forall_mem_cons.mpr ⟨ml_6_273, List.forall_mem_cons.mpr ⟨ml_7_32, List.forall_mem_cons.mpr ⟨ml_7_36, List.forall_mem_cons.mpr ⟨ml_7_40, List.forall_mem_cons.mpr ⟨ml_7_44, List.forall_mem_cons.mpr ⟨ml_7_62, List.forall_mem_cons.mpr ⟨ml_7_65, List.forall_mem_cons.mpr ⟨ml_7_76, List.forall_mem_cons.mpr ⟨ml_7_79, List.forall_mem_cons.mpr ⟨ml_7_82, List.forall_mem_cons.mpr ⟨ml_7_85, List.forall_mem_cons.mpr ⟨ml_7_88, List.forall_mem_cons.mpr ⟨ml_7_92, List.forall_mem_cons.mpr ⟨ml_7_95, List.forall_mem_cons.mpr ⟨ml_7_100, List.forall_mem_cons.mpr ⟨ml_8_98, List.forall_mem_cons.mpr ⟨ml_8_102, List.forall_mem_cons.mpr ⟨ml_8_108, List.forall_mem_cons.mpr ⟨ml_8_125, List.forall_mem_cons.mpr ⟨ml_8_129, List.forall_mem_cons.mpr ⟨ml_8_134, List.forall_mem_cons.mpr ⟨ml_8_137, List.forall_mem_cons.mpr ⟨ml_8_140, List.forall_mem_cons.mpr ⟨ml_8_144, List.forall_mem_cons.mpr ⟨ml_8_147, List.forall_mem_cons.mpr ⟨ml_8_150, List.forall_mem_cons.mpr ⟨ml_8_158, List.forall_mem_cons.mpr ⟨ml_8_165, List.forall_mem_cons.mpr ⟨ml_8_186, List.forall_mem_cons.mpr ⟨ml_8_190, List.forall_mem_cons.mpr ⟨ml_8_206, List.forall_mem_cons.mpr ⟨ml_8_210, List.forall_mem_cons.mpr ⟨ml_8_214, List.forall_mem_cons.mpr ⟨ml_8_218, List.forall_mem_cons.mpr ⟨ml_8_222, List.forall_mem_cons.mpr ⟨ml_8_225, List.forall_mem_cons.mpr ⟨ml_8_228, List.forall_mem_cons.mpr ⟨ml_8_232, List.forall_mem_cons.mpr ⟨ml_8_236, List.forall_mem_cons.mpr ⟨ml_8_240, List.forall_mem_cons.mpr ⟨ml_8_243, List.forall_mem_cons.mpr ⟨ml_8_246, List.forall_mem_cons.mpr ⟨ml_8_249, List.forall_mem_cons.mpr ⟨ml_8_252, List.forall_mem_cons.mpr ⟨ml_8_255, List.forall_mem_cons.mpr ⟨ml_8_258, List.forall_mem_cons.mpr ⟨ml_8_262, List.forall_mem_cons.mpr ⟨ml_8_265, List.forall_mem_cons.mpr ⟨ml_8_268, List.forall_mem_cons.mpr ⟨ml_8_275, List.forall_mem_cons.mpr ⟨ml_8_278, List.forall_mem_cons.mpr ⟨ml_8_281, List.forall_mem_cons.mpr ⟨ml_8_284, List.forall_mem_cons.mpr ⟨ml_8_287, List.forall_mem_cons.mpr ⟨ml_8_290, List.forall_mem_cons.mpr ⟨ml_8_293, List.forall_mem_cons.mpr ⟨ml_8_296, List.forall_mem_cons.mpr ⟨ml_8_299, List.forall_mem_cons.mpr ⟨ml_8_302, List.forall_mem_cons.mpr ⟨ml_8_305, List.forall_mem_cons.mpr ⟨ml_8_308, List.forall_mem_cons.mpr ⟨ml_8_314, List.forall_mem_cons.mpr ⟨ml_8_317, List.forall_mem_cons.mpr ⟨ml_8_322, List.forall_mem_cons.mpr ⟨ml_8_326, List.forall_mem_nil _⟩⟩⟩⟩⟩⟩⟩⟩⟩⟩⟩⟩⟩⟩⟩⟩⟩⟩⟩⟩⟩⟩⟩⟩⟩⟩⟩⟩⟩⟩⟩⟩⟩⟩⟩⟩⟩⟩⟩⟩⟩⟩⟩⟩⟩⟩⟩⟩⟩⟩⟩⟩⟩⟩⟩⟩⟩⟩⟩⟩⟩⟩⟩⟩⟩⟩⟩⟩⟩⟩⟩⟩⟩⟩⟩⟩⟩⟩⟩⟩⟩⟩⟩⟩⟩⟩⟩⟩⟩⟩⟩⟩⟩⟩⟩⟩⟩⟩⟩⟩⟩⟩⟩⟩⟩⟩⟩⟩⟩⟩⟩⟩⟩⟩⟩⟩⟩⟩⟩⟩⟩⟩⟩⟩⟩⟩⟩⟩⟩⟩⟩⟩⟩⟩⟩⟩⟩⟩⟩⟩⟩⟩⟩⟩⟩⟩⟩⟩⟩⟩⟩⟩⟩⟩⟩⟩
theorem mn_4_51 : x_MN 4 51 95 := ⟨_, "ArrayRules", rfl, List.mem_of_getElem? (i := 14) rfl⟩
theorem mn_6_241 : x_MN 6 241 95 := ⟨_, "ArrayRules", rfl, List.mem_of_getElem? (i := 15) rfl⟩
def x_mns : List (Nat × Nat × Nat) := [(4, 51, 95), (6, 241, 95)]
theorem x_mns_ok : ∀ q ∈ x_mns, x_MN q.1 q.2.1 q.2.2 := List.forall_mem_cons.mpr ⟨mn_4_51, List.forall_mem_cons.mpr ⟨mn_6_241, List.forall_mem_nil _⟩⟩
theorem cl_2_56 : x_CL 2 56 (.long (-1)) := x_t2 (i := 42) rfl rfl
theorem cl_3_13 : x_CL 3 13 (.double 4611686018427387904) := x_t3 (i := 65) rfl rfl
theorem cl_3_15 : x_CL 3 15 (.long (-1)) := x_t3 (i := 66) rfl rfl
theorem cl_6_90 : x_CL 6 90 (.long (-1)) := x_t2 (i := 3) rfl rfl
theorem cl_8_106 : x_CL 8 106 (.long (65535)) := x_t4 (i := 103) rfl rfl
theorem cl_8_112 : x_CL 8 112 (.double 4611686018427387904) := x_t4 (i := 216) rfl rfl
theorem cl_8_114 : x_CL 8 114 (.long (127)) := x_t4 (i := 217) rfl rfl
theorem cl_8_116 : x_CL 8 116 (.long (1023)) := x_t4 (i := 218) rfl rfl
theorem cl_8_118 : x_CL 8 118 (.long (2147483648)) := x_t4 (i := 219) rfl rfl
theorem cl_8_120 : x_CL 8 120 (.long (-9223372036854775808)) := x_t4 (i := 220) rfl rfl
theorem cl_8_132 : x_CL 8 132 (.long (7)) := x_t3 (i := 226) rfl rfl
theorem cl_8_154 : x_CL 8 154 (.long (6)) := x_t4 (i := 12) rfl rfl
theorem cl_8_156 : x_CL 8 156 (.long (23)) := x_t4 (i := 13) rfl rfl
theorem cl_8_197 : x_CL 8 197 (.long (400)) := x_t4 (i := 71) rfl rfl
theorem cl_8_202 : x_CL 8 202 (.long (4000)) := x_t4 (i := 72) rfl rfl
theorem cl_8_204 : x_CL 8 204 (.long (-1)) := x_t4 (i := 50) rfl rfl
theorem cl_8_320 : x_CL 8 320 (.long (2)) := x_t4 (i := 204) rfl rfl
def x_cls : List (Nat × Nat × Value) := [(2, 56, .long (-1)), (3, 13, .double 4611686018427387904), (3, 15, .long (-1)), (6, 90, .long (-1)), (8, 106, .long (65535)), (8, 112, .double 4611686018427387904), (8, 114, .long (127)), (8, 116, .long (1023)), (8, 118, .long (2147483648)), (8, 120, .long (-9223372036854775808)), (8, 132, .long (7)), (8, 154, .long (6)), (8, 156, .long (23)), (8, 197, .long (400)), (8, 202, .long (4000)), (8, 204, .long (-1)), (8, 320, .long (2))]
theorem x_cls_ok : ∀ q ∈ x_cls, x_CL q.1 q.2.1 q.2.2 := List.forall_mem_cons.mpr ⟨cl_2_56, List.forall_mem_cons.mpr ⟨cl_3_13, List.forall_mem_cons.mpr ⟨cl_3_15, List.forall_mem_cons.mpr ⟨cl_6_90, List.forall_mem_cons.mpr ⟨cl_8_106, List.forall_mem_cons.mpr ⟨cl_8_112, List.forall_mem_cons.mpr ⟨cl_8_114, List.forall_mem_cons.mpr ⟨cl_8_116, List.forall_mem_cons.mpr ⟨cl_8_118, List.forall_mem_cons.mpr ⟨cl_8_120, List.forall_mem_cons.mpr ⟨cl_8_132, List.forall_mem_cons.mpr ⟨cl_8_154, List.forall_mem_cons.mpr ⟨cl_8_156, List.forall_mem_cons.mpr ⟨cl_8_197, List.forall_mem_cons.mpr ⟨cl_8_202, List.forall_mem_cons.mpr ⟨cl_8_204, List.forall_mem_cons.mpr ⟨cl_8_320, List.forall_mem_nil _⟩⟩⟩⟩⟩⟩⟩⟩⟩⟩⟩⟩⟩⟩⟩⟩⟩
theorem x_cp1 : Cond.methodLink RX2 126 arraycopyName ∈ xTs := x_t2 (i := 182) rfl rfl
theorem x_cp2 : Cond.native arraycopyName ∈ xTs := x_t2 (i := 184) rfl rfl
theorem x_cp3 : Cond.static arraycopyName ∈ xTs := x_t2 (i := 183) rfl rfl
theorem x_cp4 : Cond.initialized "java/lang/System" ∈ xTs := x_t1 (i := 8) rfl rfl
