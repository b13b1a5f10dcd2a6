def xmono (C : xC) : Prop := ∀ (M : Nat) (as : List Value) (w : xW) (Q Q' : xQ), C M as w Q → (∀ o w', Q o w' → Q' o w') → C M as w Q'
theorem x_br_mono {c : Jvm.ClassFile.Cond} {a b : Int32} {kt kf kt' kf' : Prop} (ht : kt → kt') (hf : kf → kf') (h : x_br c a b kt kf) : x_br c a b kt' kf' := by
  cases c <;> exact ⟨fun q => ht (h.1 q), fun q => hf (h.2 q)⟩
theorem x_sw_mono {a : Int32} {k k' : Nat → Prop} {d : Nat} (hk : ∀ t, k t → k' t) : ∀ (l : List (Int32 × Nat)), x_sw a k d l → x_sw a k' d l
  | [], h => hk _ h
  | (_, _) :: r, h => ⟨fun q => hk _ (h.1 q), fun q => x_sw_mono hk r (h.2 q)⟩
set_option maxHeartbeats 4000000 in
theorem x1_mono {C C' : xC} {L : xL} {K K' : Nat → List (Nat × Value) → List Value → xW → Prop} {Q Q' : xQ} (hC : ∀ (M : Nat) (as : List Value) (w : xW) (Q Q' : xQ), C M as w Q → (∀ o w', Q o w' → Q' o w') → C' M as w Q') (hK : ∀ pc ls st w, K pc ls st w → K' pc ls st w) (hQ : ∀ o w, Q o w → Q' o w) {pc : Nat} {ls : List (Nat × Value)} {st : List Value} {w : xW} (h : x1 C L K Q pc ls st w) : x1 C' L K' Q' pc ls st w := by
  unfold x1 at h ⊢
  split at h
  · exact h.elim
  · split at h
    all_goals first
      | exact hK _ _ _ _ h
      | exact h.elim
      | (repeat' split at h
         all_goals first
           | exact h.elim
           | exact hK _ _ _ _ h
           | exact hQ _ _ h
           | exact ⟨h.1, hK _ _ _ _ h.2⟩
           | exact ⟨h.1, hQ _ _ h.2⟩
           | exact x_br_mono (hK _ _ _ _) (hK _ _ _ _) h
           | exact x_sw_mono (fun _ q => hK _ _ _ _ q) _ h
           | exact hC _ _ _ _ _ h (fun _ _ q => hK _ _ _ _ q)
           | (simp only [*] at h ⊢; first
              | exact h.elim
              | exact hK _ _ _ _ h
              | exact hQ _ _ h
              | exact ⟨h.1, hK _ _ _ _ h.2⟩
              | exact ⟨h.1, hQ _ _ h.2⟩
              | exact x_br_mono (hK _ _ _ _) (hK _ _ _ _) h
              | exact x_sw_mono (fun _ q => hK _ _ _ _ q) _ h
              | exact hC _ _ _ _ _ h (fun _ _ q => hK _ _ _ _ q)))
/-- the least judgement that the instructions close: from here the code ends, with Q -/
def Ev (C : xC) (L : xL) (Q : xQ) (pc : Nat) (ls : List (Nat × Value)) (st : List Value) (w : xW) : Prop :=
  ∀ P : Nat → List (Nat × Value) → List Value → xW → Prop, (∀ pc ls st w, x1 C L P Q pc ls st w → P pc ls st w) → P pc ls st w
theorem Ev.step {C : xC} {L : xL} {Q : xQ} (hC : xmono C) {pc : Nat} {ls : List (Nat × Value)} {st : List Value} {w : xW} (h : x1 C L (Ev C L Q) Q pc ls st w) : Ev C L Q pc ls st w :=
  fun P hP => hP _ _ _ _ (x1_mono hC (fun _ _ _ _ q => q P hP) (fun _ _ q => q) h)
theorem Ev.out {C : xC} {L : xL} {Q : xQ} (hC : xmono C) {pc : Nat} {ls : List (Nat × Value)} {st : List Value} {w : xW} (h : Ev C L Q pc ls st w) : x1 C L (Ev C L Q) Q pc ls st w :=
  h (fun pc ls st w => x1 C L (Ev C L Q) Q pc ls st w) (fun _ _ _ _ q => x1_mono hC (fun _ _ _ _ z => Ev.step hC z) (fun _ _ z => z) q)
theorem Ev.imp {C C' : xC} {L : xL} {Q Q' : xQ} (hC : ∀ (M : Nat) (as : List Value) (w : xW) (Q Q' : xQ), C M as w Q → (∀ o w', Q o w' → Q' o w') → C' M as w Q') (hC' : xmono C') (hQ : ∀ o w, Q o w → Q' o w) {pc : Nat} {ls : List (Nat × Value)} {st : List Value} {w : xW} (h : Ev C L Q pc ls st w) : Ev C' L Q' pc ls st w :=
  h (fun pc ls st w => Ev C' L Q' pc ls st w) (fun _ _ _ _ q => Ev.step hC' (x1_mono hC (fun _ _ _ _ z => z) hQ q))
/-- n instructions at once -/
def xN (C : xC) (L : xL) (Q : xQ) : Nat → Nat → List (Nat × Value) → List Value → xW → Prop
  | 0, pc, ls, st, w => Ev C L Q pc ls st w
  | n + 1, pc, ls, st, w => x1 C L (xN C L Q n) Q pc ls st w
theorem xN.ev {C : xC} {L : xL} {Q : xQ} (hC : xmono C) : ∀ (n : Nat) {pc : Nat} {ls : List (Nat × Value)} {st : List Value} {w : xW}, xN C L Q n pc ls st w → Ev C L Q pc ls st w
  | 0, _, _, _, _, h => h
  | n + 1, _, _, _, _, h => Ev.step hC (x1_mono hC (fun _ _ _ _ q => xN.ev hC n q) (fun _ _ q => q) h)
theorem xN.of {C : xC} {L : xL} {Q : xQ} (hC : xmono C) : ∀ (n : Nat) {pc : Nat} {ls : List (Nat × Value)} {st : List Value} {w : xW}, Ev C L Q pc ls st w → xN C L Q n pc ls st w
  | 0, _, _, _, _, h => h
  | n + 1, _, _, _, _, h => x1_mono hC (fun _ _ _ _ q => xN.of hC n q) (fun _ _ q => q) (Ev.out hC h)
/-- the arguments are as many as the method takes, its receiver is of its kind -/
def x_ck (rc na : Nat) (as : List Value) (w : xW) : Bool := match Nat.beq rc 99 with
  | true => Nat.beq as.length na
  | false => match as with
    | .ref q :: r => match x_at w q with
      | some (.inr (c, _)) => Nat.beq c rc && Nat.beq r.length na
      | _ => false
    | _ => false
/-- what a call comes to, within d frames -/
def Cd : Nat → xC
  | 0, _, _, _, _ => False
  | d + 1, M, as, w, Q => match x_row M with
    | some (L, nL, rc, na, _) => match x_ck rc na as w, Nat.ble (x_wd as) nL with
      | true, true => Ev (Cd d) L Q 0 (lv_args 0 as) [] w
      | _, _ => False
    | none => False
theorem Cd.mono : ∀ d : Nat, xmono (Cd d)
  | 0 => fun _ _ _ _ _ h => h.elim
  | d + 1 => by
    intro M as w Q Q' h hQ
    unfold Cd at h ⊢
    split at h
    · split at h
      · exact Ev.imp (Cd.mono d) (Cd.mono d) hQ h
      · exact h.elim
    · exact h.elim
theorem Cd.up1 : ∀ (d : Nat) (M : Nat) (as : List Value) (w : xW) (Q Q' : xQ), Cd d M as w Q → (∀ o w', Q o w' → Q' o w') → Cd (d + 1) M as w Q'
  | 0, _, _, _, _, _, h, _ => h.elim
  | d + 1, M, as, w, Q, Q', h, hQ => by
    unfold Cd at h ⊢
    split at h
    · split at h
      · exact Ev.imp (Cd.up1 d) (Cd.mono (d + 1)) hQ h
      · exact h.elim
    · exact h.elim
theorem Cd.up {d e : Nat} (hde : d ≤ e) {M : Nat} {as : List Value} {w : xW} {Q : xQ} (h : Cd d M as w Q) : Cd e M as w Q := by
  induction hde with
  | refl => exact h
  | step _ ih => exact Cd.up1 _ _ _ _ _ _ ih (fun _ _ q => q)
/-- to prove a call: its row, the arguments, then the code from its beginning -/
theorem Cd.mk {d M : Nat} {as : List Value} {w : xW} {Q : xQ} (L : xL) (nL rc na : Nat) {z : Nat × MethodName × ByteArray × Option FieldType} (ls : List (Nat × Value)) (hr : x_row M = some (L, nL, rc, na, z)) (hc : x_ck rc na as w = true) (hn : Nat.ble (x_wd as) nL = true) (hls : lv_args 0 as = ls) (n : Nat) (h : xN (Cd d) L Q n 0 ls [] w) : Cd (d + 1) M as w Q := by
  unfold Cd
  rw [hr]
  dsimp only
  rw [hc, hn, hls]
  exact xN.ev (Cd.mono d) n h
