def x_inl : List Nat → Nat → Bool
  | [], _ => false
  | a :: r, n => Nat.beq a n || x_inl r n
/-- instructions until a place among 'ss' -/
def xT (C : xC) (L : xL) (Q : xQ) (ss : List Nat) : Nat → Nat → List (Nat × Value) → List Value → xW → Prop
  | 0, pc, ls, st, w => Ev C L Q pc ls st w
  | n + 1, pc, ls, st, w => bif x_inl ss pc then Ev C L Q pc ls st w else x1 C L (xT C L Q ss n) Q pc ls st w
theorem xT.ev {C : xC} {L : xL} {Q : xQ} (hC : xmono C) (ss : List Nat) : ∀ (n : Nat) {pc : Nat} {ls : List (Nat × Value)} {st : List Value} {w : xW}, xT C L Q ss n pc ls st w → Ev C L Q pc ls st w
  | 0, _, _, _, _, h => h
  | n + 1, pc, _, _, _, h => by
    unfold xT at h
    cases hb : x_inl ss pc with
    | true => rw [hb] at h; exact h
    | false => rw [hb] at h; exact Ev.step hC (x1_mono hC (fun _ _ _ _ q => xT.ev hC ss n q) (fun _ _ q => q) h)
theorem Ev.go {C : xC} {L : xL} {Q : xQ} (hC : xmono C) (ss : List Nat) (n : Nat) {pc : Nat} {ls : List (Nat × Value)} {st : List Value} {w : xW} (h : x1 C L (xT C L Q ss n) Q pc ls st w) : Ev C L Q pc ls st w :=
  Ev.step hC (x1_mono hC (fun _ _ _ _ q => xT.ev hC ss n q) (fun _ _ q => q) h)
