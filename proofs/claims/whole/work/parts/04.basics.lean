/-! looking things up: by place -/
def x_at {α : Type} : List α → Nat → Option α
  | [], _ => none
  | e :: _, 0 => some e
  | _ :: w, n + 1 => x_at w n
def x_find : List (Nat × xI) → Nat → Option xI
  | [], _ => none
  | (j, v) :: r, i => bif Nat.beq j i then some v else x_find r i
def x_look (L : xL) (pc : Nat) : Option xI := match x_at L (pc / 16) with
  | some r => x_find r pc
  | none => none
def x_row (M : Nat) : Option xMI := match x_at xm_tab (M / 16) with
  | some r => x_at r (M % 16)
  | none => none
