/-! WHAT A NODE COMES TO: E says it of its parts -/
def oAnd (x : SO) (f : SS → SO) : SO := bif x.1 then f x.2 else x
def sWork (S : SS) : SS := (S.1, S.2.1, (rK S.2.2, rA S.2.2, rF S.2.2, rW S.2.2, rN S.2.2 + 1, rT S.2.2, rC S.2.2))
section EVS
variable (P : SP) (E : Int32 → SS → SO)
def eFlow (n : Int32) (S : SS) : SO :=
  bif decide (pC P (ix n) = 3) then oAnd (E (pb P (ix n)) S) (fun S => (true, sVar S (pa P (ix n)) (rK S.2.2) (rA S.2.2)))
  else bif decide (pC P (ix n) = 4) then E (pb P (ix n)) (sNote S (pa P (ix n)))
  else bif decide (pC P (ix n) = 18) then oAnd (E (pb P (ix n)) S) (fun S => oCast P S n)
  else bif decide (pC P (ix n) = 19) then oAnd (E (pb P (ix n)) S) (fun S => oAnd (oRef S n) (fun S => (true, sGive S 0 (bL (sIsOf S (pa P (ix n)))))))
  else bif decide (pC P (ix n) = 23) then oAnd (E (pa P (ix n)) S) (fun S => E (pb P (ix n)) S)
  else bif decide (pC P (ix n) = 24) then oAnd (E (pa P (ix n)) S) (fun S => oAnd (oNum S n) (fun S => E (bif decide (rA S.2.2 = 0) then pc' P (ix n) else pb P (ix n)) S))
  else bif decide (pC P (ix n) = 25) then (bif (E (pa P (ix n)) S).1 then E (pa P (ix n)) S else oAnd (oTake P (E (pa P (ix n)) S).2 n) (fun S => E (pb P (ix n)) S))
  else (false, sFail S 9 n)
def oNum20 (S : SS) (n : Int32) : SO := bif decide (pC P (ix n) = 20) then (true, S) else oNum S n
def oTwo (n k : Int32) (a : Int64) (S : SS) : SO :=
  bif decide (pC P (ix n) = 6) then (true, sGive S 0 (a + rA S.2.2))
  else bif decide (pC P (ix n) = 20) then oSame S n k a
  else bif decide (rA S.2.2 = 0) then (false, sFail S 8 n) else (true, sGive S 0 (a / rA S.2.2))
def eTwo (n : Int32) (S : SS) : SO :=
  oAnd (E (pa P (ix n)) S) (fun S1 => oAnd (oNum20 P S1 n) (fun S1 => oAnd (E (pb P (ix n)) S1) (fun S2 => oAnd (oNum20 P S2 n) (fun S2 => oTwo P n (rK S1.2.2) (rA S1.2.2) S2))))
def oMake (n f s u : Int32) (neg : Bool) (S : SS) : SO := bif neg then (false, sFail S 4 n) else oMade ((hMAs S.1 (pa P (ix n)) f s u).2, S.2) n (hMAs S.1 (pa P (ix n)) f s u).1
def eMake2 (n f s : Int32) (neg : Bool) (S : SS) : SO :=
  bif decide (pd P (ix n) = -1) then oMake P n f s (-1) neg S
  else oAnd (E (pd P (ix n)) S) (fun S => oAnd (oNum S n) (fun S => oMake P n f s (rA S.2.2).toInt32 (neg || decide ((rA S.2.2).toInt32 < 0)) S))
def eMake1 (n f : Int32) (neg : Bool) (S : SS) : SO :=
  bif decide (pc' P (ix n) = -1) then eMake2 P E n f (-1) neg S
  else oAnd (E (pc' P (ix n)) S) (fun S => oAnd (oNum S n) (fun S => eMake2 P E n f (rA S.2.2).toInt32 (neg || decide ((rA S.2.2).toInt32 < 0)) S))
def eMake (n : Int32) (S : SS) : SO :=
  oAnd (E (pb P (ix n)) S) (fun S => oAnd (oNum S n) (fun S => eMake1 P E n (rA S.2.2).toInt32 (decide ((rA S.2.2).toInt32 < 0)) S))
def eFillL (n m : Int32) : Nat → Nat → SS → SO
  | 0, _, S => (true, sGive S 2 m.toInt64)
  | k + 1, i, S => oAnd (E (pNth P (pb P (ix n)) (nI i)) S) (fun S => oAnd (oPut S n m (nI i)) (fun S => eFillL n m k (i + 1) S))
def eFilled (n : Int32) (S : SS) : SO :=
  bif decide ((hMA S.1 (pa P (ix n)) (pLen P (pb P (ix n)))).1 = -1) then (false, sFail ((hMA S.1 (pa P (ix n)) (pLen P (pb P (ix n)))).2, S.2) 6 n)
  else eFillL P E n (hMA S.1 (pa P (ix n)) (pLen P (pb P (ix n)))).1 (ix (pLen P (pb P (ix n)))) 0 ((hMA S.1 (pa P (ix n)) (pLen P (pb P (ix n)))).2, S.2)
def oVary (n b : Int32) (S : SS) : SO :=
  bif (decide (pLen P (pb P (ix n)) = 1) && (decide (rK S.2.2 = 1) || sIsOf S (pa P (ix n)))) then (true, S) else oGath P S n b (pLen P (pb P (ix n)))
def eVaryL (n b : Int32) : Nat → Nat → SS → SO
  | 0, _, S => oVary P n b (sHeld S b)
  | k + 1, i, S => bif !(oAnd (E (pNth P (pb P (ix n)) (nI i)) S) (fun S => oHold S n)).1 then (false, sHeld (oAnd (E (pNth P (pb P (ix n)) (nI i)) S) (fun S => oHold S n)).2 b) else eVaryL n b k (i + 1) (oAnd (E (pNth P (pb P (ix n)) (nI i)) S) (fun S => oHold S n)).2
def eVaried (n : Int32) (S : SS) : SO := eVaryL P E n (vH S.2.1) (ix (pLen P (pb P (ix n)))) 0 S
def eAdd (n t i : Int32) (S : SS) : SO :=
  oAnd (oAdd S n t) (fun S => oAnd (E (pc' P (ix n)) S) (fun S2 => oAnd (oNum S2 n) (fun S2 => (true, sGiveEl (hSum S2.1 t i (hAmAt S.1 t i) (hReAt S.1 t i) (rA S2.2.2), S2.2) t i))))
def ePlace (n t i : Int32) (S : SS) : SO :=
  bif decide (pC P (ix n) = 14) then oAnd (oPut S n t i) (fun S => (true, sGiveEl S t i))
  else bif decide (pC P (ix n) = 15) then eAdd P E n t i S
  else bif decide (pC P (ix n) = 16) then oStep S n t i
  else (true, sGiveEl S t i)
def eAtPlace (n : Int32) (S : SS) : SO :=
  oAnd (E (pa P (ix n)) S) (fun S => oAnd (oArr S n) (fun S1 => oAnd (E (pb P (ix n)) S1) (fun S => oAnd (oNum S n) (fun S2 =>
    oAnd (bif decide (pC P (ix n) = 14) then E (pc' P (ix n)) S2 else (true, S2)) (fun S => oAnd (oEl S n (rA S1.2.2).toInt32 (rA S2.2.2).toInt32) (fun S => ePlace P E n (rA S1.2.2).toInt32 (rA S2.2.2).toInt32 S))))))
def eEachL (n t : Int32) (len : Int32) : Nat → Nat → SS → SO
  | 0, _, S => (true, sGive S 0 len.toInt64)
  | k + 1, i, S => oAnd (E (pc' P (ix n)) (sVar S (pb P (ix n)) (hKindAt S.1 t (nI i)) (hAmAt S.1 t (nI i)))) (fun S => eEachL n t len k (i + 1) S)
def eWith (n : Int32) (S : SS) : SO :=
  oAnd (E (pa P (ix n)) S) (fun S => oAnd (oArr S n) (fun S =>
    bif decide (rK S.2.2 = 1) then (false, sFail S 1 n)
    else bif decide (pC P (ix n) = 17) then oMade ((hCopy S.1 (rA S.2.2).toInt32).2, S.2) n (hCopy S.1 (rA S.2.2).toInt32).1
    else bif decide (pC P (ix n) = 21) then eEachL P E n (rA S.2.2).toInt32 (hLenOf S.1 (rA S.2.2).toInt32) (ix (hLenOf S.1 (rA S.2.2).toInt32)) 0 S
    else (true, sGive S 0 (hLenOf S.1 (rA S.2.2).toInt32).toInt64)))
def oMove (n f s t p c : Int32) (S : SS) : SO :=
  bif (decide (f = -1) || decide (t = -1)) then (false, sFail S 1 n)
  else bif decide ((hMove S.1 f s t p c).1 = 0) then (true, sGive ((hMove S.1 f s t p c).2, S.2) 0 c.toInt64)
  else (false, sFail ((hMove S.1 f s t p c).2, S.2) (hMove S.1 f s t p c).1 n)
def eMove (n : Int32) (S : SS) : SO :=
  oAnd (E (pa P (ix n)) S) (fun S => oAnd (oArr S n) (fun S1 => oAnd (E (pb P (ix n)) S1) (fun S => oAnd (oNum S n) (fun S2 =>
    oAnd (E (pc' P (ix n)) S2) (fun S => oAnd (oArr S n) (fun S3 => oAnd (E (pNth P (pd P (ix n)) 0) S3) (fun S => oAnd (oNum S n) (fun S4 =>
      oAnd (E (pNth P (pd P (ix n)) 1) S4) (fun S => oAnd (oNum S n) (fun S5 => oMove n (rA S1.2.2).toInt32 (rA S2.2.2).toInt32 (rA S3.2.2).toInt32 (rA S4.2.2).toInt32 (rA S5.2.2).toInt32 S5))))))))))
def eNode (n : Int32) (S : SS) : SO :=
  bif decide (pC P (ix n) = 0) then (true, sGive S 0 (pa P (ix n)).toInt64)
  else bif decide (pC P (ix n) = 1) then (true, sGive S 1 (-1))
  else bif decide (pC P (ix n) = 2) then (true, sGiveVar S (pa P (ix n)))
  else bif decide (pC P (ix n) = 3) then eFlow P E n S
  else bif decide (pC P (ix n) = 4) then eFlow P E n S
  else bif decide (pC P (ix n) = 5) then (false, sFail S 7 n)
  else bif decide (pC P (ix n) = 6) then eTwo P E n S
  else bif decide (pC P (ix n) = 7) then eTwo P E n S
  else bif decide (pC P (ix n) = 8) then oMade ((hMk S.1 (pa P (ix n)) (-1) 0).2, S.2) n (hMk S.1 (pa P (ix n)) (-1) 0).1
  else bif decide (pC P (ix n) = 9) then eMake P E n S
  else bif decide (pC P (ix n) = 10) then eFlow P E n S
  else bif decide (pC P (ix n) = 11) then eFilled P E n S
  else bif decide (pC P (ix n) = 12) then eWith P E n S
  else bif decide (pC P (ix n) = 13) then eAtPlace P E n S
  else bif decide (pC P (ix n) = 14) then eAtPlace P E n S
  else bif decide (pC P (ix n) = 15) then eAtPlace P E n S
  else bif decide (pC P (ix n) = 16) then eAtPlace P E n S
  else bif decide (pC P (ix n) = 17) then eWith P E n S
  else bif decide (pC P (ix n) = 18) then eFlow P E n S
  else bif decide (pC P (ix n) = 19) then eFlow P E n S
  else bif decide (pC P (ix n) = 20) then eTwo P E n S
  else bif decide (pC P (ix n) = 21) then eWith P E n S
  else bif decide (pC P (ix n) = 22) then eVaried P E n S
  else bif decide (pC P (ix n) = 23) then eFlow P E n S
  else bif decide (pC P (ix n) = 24) then eFlow P E n S
  else bif decide (pC P (ix n) = 25) then eFlow P E n S
  else bif decide (pC P (ix n) = 26) then eMove P E n S
  else eFlow P E n S
end EVS
def ev (P : SP) : Nat → Int32 → SS → SO
  | 0, n, S => (false, sFail S 10 n)
  | f + 1, n, S =>
    bif !pIsNode P n then (false, sFail S 10 n)
    else bif pIsList P n then (false, sFail S 9 n)
    else bif !decide (rN S.2.2 < 3000) then (false, sFail S 10 n)
    else eNode P (ev P f) n (sWork S)
