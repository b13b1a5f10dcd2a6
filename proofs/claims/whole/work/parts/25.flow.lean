theorem dne {c a b : Int32} (h : c = a) (hne : a ≠ b) : decide (c = b) = false := decide_eq_false (fun z => hne (h.symm.trans z))
section FLOW2
variable {P : SP} {E : Int32 → SS → SO} {J V : Int → SS → Prop} {d : Nat} {dep : Int32}
set_option maxRecDepth 100000 in
set_option maxHeartbeats 1000000 in
theorem s_workFlow (hd : 8 ≤ d) (cx : CX P E J V d dep) {k : Int} {S : SS} {Q : xQ} (hJ : J k S) (n : Int32) (hn : pIsNode P n = true) (hN : pC P (ix n) = 4 → J k (sNote S (pa P (ix n)))) (h : Q (some (.int (bI (eFlow P E n S).1))) (wC P (eFlow P E n S).2)) : Cd (d + 1) 49 [.ref 3, .int n, .int dep] (wC P S) Q := by
  refine Cd.mk cdX6_workFlow 3 2 2 [(0, .ref 3), (1, .int n), (2, .int dep)] rfl rfl rfl rfl 0 ?_
  refine Ev.go (Cd.mono d) [116, 165, 195, 228, 281, 325, 398, 450] 100 ?_
  refine And.intro (cx.node_in hn) ?_
  unfold eFlow at h
  refine And.intro (fun hc3 => ?_) (fun hc3 => ?_)
  · simp only [decide_eq_true hc3, dne hc3 (show (3 : Int32) ≠ 4 by decide), dne hc3 (show (3 : Int32) ≠ 18 by decide), dne hc3 (show (3 : Int32) ≠ 19 by decide), dne hc3 (show (3 : Int32) ≠ 23 by decide), dne hc3 (show (3 : Int32) ≠ 24 by decide), dne hc3 (show (3 : Int32) ≠ 25 by decide), cond_true, cond_false] at h
    exact s_flow3 hd cx hJ n hn h
  refine And.intro (fun hc4 => ?_) (fun hc4 => ?_)
  · simp only [dne hc4 (show (4 : Int32) ≠ 3 by decide), decide_eq_true hc4, dne hc4 (show (4 : Int32) ≠ 18 by decide), dne hc4 (show (4 : Int32) ≠ 19 by decide), dne hc4 (show (4 : Int32) ≠ 23 by decide), dne hc4 (show (4 : Int32) ≠ 24 by decide), dne hc4 (show (4 : Int32) ≠ 25 by decide), cond_true, cond_false] at h
    exact s_flow4 hd cx hJ n (hN hc4) hn h
  refine And.intro (fun hc5 => ?_) (fun hc5 => ?_)
  · simp only [dne hc5 (show (5 : Int32) ≠ 3 by decide), dne hc5 (show (5 : Int32) ≠ 4 by decide), dne hc5 (show (5 : Int32) ≠ 18 by decide), dne hc5 (show (5 : Int32) ≠ 19 by decide), dne hc5 (show (5 : Int32) ≠ 23 by decide), dne hc5 (show (5 : Int32) ≠ 24 by decide), dne hc5 (show (5 : Int32) ≠ 25 by decide), cond_true, cond_false] at h
    exact s_flow0 hd n h
  refine And.intro (fun hc6 => ?_) (fun hc6 => ?_)
  · simp only [dne hc6 (show (6 : Int32) ≠ 3 by decide), dne hc6 (show (6 : Int32) ≠ 4 by decide), dne hc6 (show (6 : Int32) ≠ 18 by decide), dne hc6 (show (6 : Int32) ≠ 19 by decide), dne hc6 (show (6 : Int32) ≠ 23 by decide), dne hc6 (show (6 : Int32) ≠ 24 by decide), dne hc6 (show (6 : Int32) ≠ 25 by decide), cond_true, cond_false] at h
    exact s_flow0 hd n h
  refine And.intro (fun hc7 => ?_) (fun hc7 => ?_)
  · simp only [dne hc7 (show (7 : Int32) ≠ 3 by decide), dne hc7 (show (7 : Int32) ≠ 4 by decide), dne hc7 (show (7 : Int32) ≠ 18 by decide), dne hc7 (show (7 : Int32) ≠ 19 by decide), dne hc7 (show (7 : Int32) ≠ 23 by decide), dne hc7 (show (7 : Int32) ≠ 24 by decide), dne hc7 (show (7 : Int32) ≠ 25 by decide), cond_true, cond_false] at h
    exact s_flow0 hd n h
  refine And.intro (fun hc8 => ?_) (fun hc8 => ?_)
  · simp only [dne hc8 (show (8 : Int32) ≠ 3 by decide), dne hc8 (show (8 : Int32) ≠ 4 by decide), dne hc8 (show (8 : Int32) ≠ 18 by decide), dne hc8 (show (8 : Int32) ≠ 19 by decide), dne hc8 (show (8 : Int32) ≠ 23 by decide), dne hc8 (show (8 : Int32) ≠ 24 by decide), dne hc8 (show (8 : Int32) ≠ 25 by decide), cond_true, cond_false] at h
    exact s_flow0 hd n h
  refine And.intro (fun hc9 => ?_) (fun hc9 => ?_)
  · simp only [dne hc9 (show (9 : Int32) ≠ 3 by decide), dne hc9 (show (9 : Int32) ≠ 4 by decide), dne hc9 (show (9 : Int32) ≠ 18 by decide), dne hc9 (show (9 : Int32) ≠ 19 by decide), dne hc9 (show (9 : Int32) ≠ 23 by decide), dne hc9 (show (9 : Int32) ≠ 24 by decide), dne hc9 (show (9 : Int32) ≠ 25 by decide), cond_true, cond_false] at h
    exact s_flow0 hd n h
  refine And.intro (fun hc10 => ?_) (fun hc10 => ?_)
  · simp only [dne hc10 (show (10 : Int32) ≠ 3 by decide), dne hc10 (show (10 : Int32) ≠ 4 by decide), dne hc10 (show (10 : Int32) ≠ 18 by decide), dne hc10 (show (10 : Int32) ≠ 19 by decide), dne hc10 (show (10 : Int32) ≠ 23 by decide), dne hc10 (show (10 : Int32) ≠ 24 by decide), dne hc10 (show (10 : Int32) ≠ 25 by decide), cond_true, cond_false] at h
    exact s_flow0 hd n h
  refine And.intro (fun hc11 => ?_) (fun hc11 => ?_)
  · simp only [dne hc11 (show (11 : Int32) ≠ 3 by decide), dne hc11 (show (11 : Int32) ≠ 4 by decide), dne hc11 (show (11 : Int32) ≠ 18 by decide), dne hc11 (show (11 : Int32) ≠ 19 by decide), dne hc11 (show (11 : Int32) ≠ 23 by decide), dne hc11 (show (11 : Int32) ≠ 24 by decide), dne hc11 (show (11 : Int32) ≠ 25 by decide), cond_true, cond_false] at h
    exact s_flow0 hd n h
  refine And.intro (fun hc12 => ?_) (fun hc12 => ?_)
  · simp only [dne hc12 (show (12 : Int32) ≠ 3 by decide), dne hc12 (show (12 : Int32) ≠ 4 by decide), dne hc12 (show (12 : Int32) ≠ 18 by decide), dne hc12 (show (12 : Int32) ≠ 19 by decide), dne hc12 (show (12 : Int32) ≠ 23 by decide), dne hc12 (show (12 : Int32) ≠ 24 by decide), dne hc12 (show (12 : Int32) ≠ 25 by decide), cond_true, cond_false] at h
    exact s_flow0 hd n h
  refine And.intro (fun hc13 => ?_) (fun hc13 => ?_)
  · simp only [dne hc13 (show (13 : Int32) ≠ 3 by decide), dne hc13 (show (13 : Int32) ≠ 4 by decide), dne hc13 (show (13 : Int32) ≠ 18 by decide), dne hc13 (show (13 : Int32) ≠ 19 by decide), dne hc13 (show (13 : Int32) ≠ 23 by decide), dne hc13 (show (13 : Int32) ≠ 24 by decide), dne hc13 (show (13 : Int32) ≠ 25 by decide), cond_true, cond_false] at h
    exact s_flow0 hd n h
  refine And.intro (fun hc14 => ?_) (fun hc14 => ?_)
  · simp only [dne hc14 (show (14 : Int32) ≠ 3 by decide), dne hc14 (show (14 : Int32) ≠ 4 by decide), dne hc14 (show (14 : Int32) ≠ 18 by decide), dne hc14 (show (14 : Int32) ≠ 19 by decide), dne hc14 (show (14 : Int32) ≠ 23 by decide), dne hc14 (show (14 : Int32) ≠ 24 by decide), dne hc14 (show (14 : Int32) ≠ 25 by decide), cond_true, cond_false] at h
    exact s_flow0 hd n h
  refine And.intro (fun hc15 => ?_) (fun hc15 => ?_)
  · simp only [dne hc15 (show (15 : Int32) ≠ 3 by decide), dne hc15 (show (15 : Int32) ≠ 4 by decide), dne hc15 (show (15 : Int32) ≠ 18 by decide), dne hc15 (show (15 : Int32) ≠ 19 by decide), dne hc15 (show (15 : Int32) ≠ 23 by decide), dne hc15 (show (15 : Int32) ≠ 24 by decide), dne hc15 (show (15 : Int32) ≠ 25 by decide), cond_true, cond_false] at h
    exact s_flow0 hd n h
  refine And.intro (fun hc16 => ?_) (fun hc16 => ?_)
  · simp only [dne hc16 (show (16 : Int32) ≠ 3 by decide), dne hc16 (show (16 : Int32) ≠ 4 by decide), dne hc16 (show (16 : Int32) ≠ 18 by decide), dne hc16 (show (16 : Int32) ≠ 19 by decide), dne hc16 (show (16 : Int32) ≠ 23 by decide), dne hc16 (show (16 : Int32) ≠ 24 by decide), dne hc16 (show (16 : Int32) ≠ 25 by decide), cond_true, cond_false] at h
    exact s_flow0 hd n h
  refine And.intro (fun hc17 => ?_) (fun hc17 => ?_)
  · simp only [dne hc17 (show (17 : Int32) ≠ 3 by decide), dne hc17 (show (17 : Int32) ≠ 4 by decide), dne hc17 (show (17 : Int32) ≠ 18 by decide), dne hc17 (show (17 : Int32) ≠ 19 by decide), dne hc17 (show (17 : Int32) ≠ 23 by decide), dne hc17 (show (17 : Int32) ≠ 24 by decide), dne hc17 (show (17 : Int32) ≠ 25 by decide), cond_true, cond_false] at h
    exact s_flow0 hd n h
  refine And.intro (fun hc18 => ?_) (fun hc18 => ?_)
  · simp only [dne hc18 (show (18 : Int32) ≠ 3 by decide), dne hc18 (show (18 : Int32) ≠ 4 by decide), decide_eq_true hc18, dne hc18 (show (18 : Int32) ≠ 19 by decide), dne hc18 (show (18 : Int32) ≠ 23 by decide), dne hc18 (show (18 : Int32) ≠ 24 by decide), dne hc18 (show (18 : Int32) ≠ 25 by decide), cond_true, cond_false] at h
    exact s_flow18 hd cx hJ n hn h
  refine And.intro (fun hc19 => ?_) (fun hc19 => ?_)
  · simp only [dne hc19 (show (19 : Int32) ≠ 3 by decide), dne hc19 (show (19 : Int32) ≠ 4 by decide), dne hc19 (show (19 : Int32) ≠ 18 by decide), decide_eq_true hc19, dne hc19 (show (19 : Int32) ≠ 23 by decide), dne hc19 (show (19 : Int32) ≠ 24 by decide), dne hc19 (show (19 : Int32) ≠ 25 by decide), cond_true, cond_false] at h
    exact s_flow19 hd cx hJ n hn h
  refine And.intro (fun hc20 => ?_) (fun hc20 => ?_)
  · simp only [dne hc20 (show (20 : Int32) ≠ 3 by decide), dne hc20 (show (20 : Int32) ≠ 4 by decide), dne hc20 (show (20 : Int32) ≠ 18 by decide), dne hc20 (show (20 : Int32) ≠ 19 by decide), dne hc20 (show (20 : Int32) ≠ 23 by decide), dne hc20 (show (20 : Int32) ≠ 24 by decide), dne hc20 (show (20 : Int32) ≠ 25 by decide), cond_true, cond_false] at h
    exact s_flow0 hd n h
  refine And.intro (fun hc21 => ?_) (fun hc21 => ?_)
  · simp only [dne hc21 (show (21 : Int32) ≠ 3 by decide), dne hc21 (show (21 : Int32) ≠ 4 by decide), dne hc21 (show (21 : Int32) ≠ 18 by decide), dne hc21 (show (21 : Int32) ≠ 19 by decide), dne hc21 (show (21 : Int32) ≠ 23 by decide), dne hc21 (show (21 : Int32) ≠ 24 by decide), dne hc21 (show (21 : Int32) ≠ 25 by decide), cond_true, cond_false] at h
    exact s_flow0 hd n h
  refine And.intro (fun hc22 => ?_) (fun hc22 => ?_)
  · simp only [dne hc22 (show (22 : Int32) ≠ 3 by decide), dne hc22 (show (22 : Int32) ≠ 4 by decide), dne hc22 (show (22 : Int32) ≠ 18 by decide), dne hc22 (show (22 : Int32) ≠ 19 by decide), dne hc22 (show (22 : Int32) ≠ 23 by decide), dne hc22 (show (22 : Int32) ≠ 24 by decide), dne hc22 (show (22 : Int32) ≠ 25 by decide), cond_true, cond_false] at h
    exact s_flow0 hd n h
  refine And.intro (fun hc23 => ?_) (fun hc23 => ?_)
  · simp only [dne hc23 (show (23 : Int32) ≠ 3 by decide), dne hc23 (show (23 : Int32) ≠ 4 by decide), dne hc23 (show (23 : Int32) ≠ 18 by decide), dne hc23 (show (23 : Int32) ≠ 19 by decide), decide_eq_true hc23, dne hc23 (show (23 : Int32) ≠ 24 by decide), dne hc23 (show (23 : Int32) ≠ 25 by decide), cond_true, cond_false] at h
    exact s_flow23 hd cx hJ n hn h
  refine And.intro (fun hc24 => ?_) (fun hc24 => ?_)
  · simp only [dne hc24 (show (24 : Int32) ≠ 3 by decide), dne hc24 (show (24 : Int32) ≠ 4 by decide), dne hc24 (show (24 : Int32) ≠ 18 by decide), dne hc24 (show (24 : Int32) ≠ 19 by decide), dne hc24 (show (24 : Int32) ≠ 23 by decide), decide_eq_true hc24, dne hc24 (show (24 : Int32) ≠ 25 by decide), cond_true, cond_false] at h
    exact s_flow24 hd cx hJ n hn h
  refine And.intro (fun hc25 => ?_) (fun hc25 => ?_)
  · simp only [dne hc25 (show (25 : Int32) ≠ 3 by decide), dne hc25 (show (25 : Int32) ≠ 4 by decide), dne hc25 (show (25 : Int32) ≠ 18 by decide), dne hc25 (show (25 : Int32) ≠ 19 by decide), dne hc25 (show (25 : Int32) ≠ 23 by decide), dne hc25 (show (25 : Int32) ≠ 24 by decide), decide_eq_true hc25, cond_true, cond_false] at h
    exact s_flow25 hd cx hJ n hn h
  simp only [decide_eq_false hc3, decide_eq_false hc4, decide_eq_false hc18, decide_eq_false hc19, decide_eq_false hc23, decide_eq_false hc24, decide_eq_false hc25, cond_false] at h
  exact s_flow0 hd n h
end FLOW2
