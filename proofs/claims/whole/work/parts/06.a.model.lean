/-! THE ABSTRACT BOOK: one mathematical value to which the class and the reference are both tied -/
/-- a record: kind, work, the one before, page, word, how much, where undoing goes on -/
abbrev Rc : Type := Nat × Nat × Nat × Nat × Nat × Int32 × Nat
abbrev rK (x : Rc) : Nat := x.1
abbrev rW (x : Rc) : Nat := x.2.1
abbrev rB (x : Rc) : Nat := x.2.2.1
abbrev rP (x : Rc) : Nat := x.2.2.2.1
abbrev rD (x : Rc) : Nat := x.2.2.2.2.1
abbrev rM (x : Rc) : Int32 := x.2.2.2.2.2.1
abbrev rG (x : Rc) : Nat := x.2.2.2.2.2.2
/-- the log: records, forced, changes, the class's room, the records -/
abbrev LG : Type := Nat × Nat × Nat × Nat × (Nat → Rc)
/-- pages: memory, marks, medium, its marks -/
abbrev PG : Type := (Nat → Int32) × (Nat → Int32) × (Nat → Int32) × (Nat → Int32)
/-- latest point, points, works given, doing, at, four counts -/
abbrev CX : Type := Nat × Nat × Nat × Nat × Nat × Int32 × Int32 × Int32 × Int32
abbrev SS : Type := LG × PG × (TF × (Nat → Nat)) × (TF × (Nat → Nat)) × CX
abbrev sN (S : SS) : Nat := S.1.1
abbrev sFo (S : SS) : Nat := S.1.2.1
abbrev sCh (S : SS) : Nat := S.1.2.2.1
abbrev sCap (S : SS) : Nat := S.1.2.2.2.1
abbrev sR (S : SS) : Nat → Rc := S.1.2.2.2.2
abbrev sPg (S : SS) : PG := S.2.1
abbrev sT (S : SS) : TF := S.2.2.1.1
abbrev sBs (S : SS) : Nat → Nat := S.2.2.1.2
abbrev sTt (S : SS) : TF := S.2.2.2.1.1
abbrev sBt (S : SS) : Nat → Nat := S.2.2.2.1.2
abbrev sCx (S : SS) : CX := S.2.2.2.2
abbrev sLp (S : SS) : Nat := S.2.2.2.2.1
abbrev sPt (S : SS) : Nat := S.2.2.2.2.2.1
abbrev sWk (S : SS) : Nat := S.2.2.2.2.2.2.1
abbrev sDo (S : SS) : Nat := S.2.2.2.2.2.2.2.1
abbrev sAt (S : SS) : Nat := S.2.2.2.2.2.2.2.2.1
abbrev sC2 (S : SS) : Int32 := S.2.2.2.2.2.2.2.2.2.1
abbrev sC3 (S : SS) : Int32 := S.2.2.2.2.2.2.2.2.2.2.1
abbrev sC4 (S : SS) : Int32 := S.2.2.2.2.2.2.2.2.2.2.2.1
abbrev sC5 (S : SS) : Int32 := S.2.2.2.2.2.2.2.2.2.2.2.2
def T0 : TF := fun _ => (0, 0, 0)
/-- a record comes into the log -/
def apL (L : LG) (x : Rc) : LG := (L.1 + 1, L.2.1, L.2.2.1 + (if rK x = 1 then 1 else 0), (if L.2.2.2.1 < L.1 * 7 + 7 then L.2.2.2.1 * 2 else L.2.2.2.1), va_up L.2.2.2.2 (L.1 + 1) x)
/-- what a record tells the entry of its work -/
def tkE (r k g : Nat) (e : Nat × Nat × Nat) : Nat × Nat × Nat :=
  if k = 1 then (e.1, r, r) else if k = 2 then (e.1, r, g) else if k = 3 then (4, r, e.2.2) else if k = 4 then (2, r, e.2.2) else if k = 5 then (0, 0, 0) else if k = 6 then (3, r, e.2.2) else (e.1, r, e.2.2)
def tkT (T : TF) (r : Nat) (x : Rc) : TF := if rW x = 0 then T else va_up T (rW x) (tkE r (rK x) (rG x) (if (T (rW x)).1 = 0 then (1, 0, 0) else T (rW x)))
def tkB (B : Nat → Nat) (r : Nat) (x : Rc) : Nat → Nat := if rW x ≠ 0 ∧ (rK x = 1 ∨ rK x = 2) ∧ B (rP x) = 0 then va_up B (rP x) r else B
/-- a change or return is done -/
def apP (G : PG) (r : Nat) (x : Rc) : PG := (upd G.1 (rP x * 8 + rD x) (G.1 (rP x * 8 + rD x) + rM x), upd G.2.1 (rP x) (nI r), G.2.2.1, G.2.2.2)
/-- a record comes: into the log and the tables -/
def emT (S : SS) (x : Rc) : SS := (apL S.1 x, S.2.1, (tkT (sT S) (sN S + 1) x, tkB (sBs S) (sN S + 1) x), S.2.2.2)
/-- .. and is done -/
def emP (S : SS) (x : Rc) : SS := (apL S.1 x, apP S.2.1 (sN S + 1) x, (tkT (sT S) (sN S + 1) x, tkB (sBs S) (sN S + 1) x), S.2.2.2)
def rcW (S : SS) (k w : Nat) : Rc := (k, w, (sT S w).2.1, 0, 0, 0, 0)
def rcC (S : SS) (w p d : Nat) (m : Int32) : Rc := (1, w, (sT S w).2.1, p, d, m, 0)
/-- the last change before c that is not undone -/
def ub (R : Nat → Rc) (c : Nat) : Nat := if rB (R c) ≠ 0 ∧ rK (R (rB (R c))) = 2 then rG (R (rB (R c))) else rB (R c)
def rcU (S : SS) (w : Nat) : Rc := (2, w, (sT S w).2.1, rP (sR S (sT S w).2.2), rD (sR S (sT S w).2.2), -(rM (sR S (sT S w).2.2)), ub (sR S) (sT S w).2.2)
/-- the next one of a work is undone -/
def und (S : SS) (w : Nat) : SS := emP S (rcU S w)
/-- .. down to a record: how many, and what is then -/
def undL : Nat → SS → Nat → Nat → Nat × SS
  | 0, S, _, _ => (0, S)
  | k + 1, S, w, to => if to < (sT S w).2.2 then ((undL k (und S w) w to).1 + 1, (undL k (und S w) w to).2) else (0, S)
def frc (S : SS) (x : Nat) : SS := ((S.1.1, max S.1.2.1 (min x S.1.1), S.1.2.2), S.2)
def cntK (R : Nat → Rc) : Nat → Nat
  | 0 => 0
  | m + 1 => cntK R m + (if rK (R (m + 1)) = 1 then 1 else 0)
def setDo (S : SS) (d a : Nat) : SS := (S.1, S.2.1, S.2.2.1, S.2.2.2.1, (sLp S, sPt S, sWk S, d, a, S.2.2.2.2.2.2.2.2.2))
/-- parts without steps are passed over -/
def pas1 (S : SS) : SS := if sDo S = 1 ∧ sN S < sAt S then setDo S 2 (if lbD (sBs S) 64 = 0 then sN S + 1 else lbD (sBs S) 64) else S
def pas2 (S : SS) : SS := if sDo S = 2 ∧ sN S < sAt S then setDo S 3 (sAt S) else S
def pas3 (S : SS) : SS := if sDo S = 3 ∧ lwD (sT S) 4 200 = 0 then setDo S 4 (sAt S) else S
noncomputable def pas4 (S : SS) : SS := if sDo S = 4 ∧ wuD (sT S) 200 = 0 then setDo S 0 (sAt S) else S
noncomputable def pas (S : SS) : SS := pas4 (pas3 (pas2 (pas1 S)))
def setC (S : SS) (c2 c3 c4 c5 : Int32) : SS := (S.1, S.2.1, S.2.2.1, S.2.2.2.1, (sLp S, sPt S, sWk S, sDo S, sAt S, c2, c3, c4, c5))
def setTB (S : SS) (T : TF) (B : Nat → Nat) : SS := (S.1, S.2.1, (T, B), S.2.2.2)
def setPg (S : SS) (G : PG) : SS := (S.1, G, S.2.2)
/-- a record is looked through -/
def look (S : SS) (r : Nat) : SS := setC (if rK (sR S r) = 8 then setTB S (sTt S) (sBt S) else setTB S (tkT (sT S) r (sR S r)) (tkB (sBs S) r (sR S r))) (sC2 S + 1) (sC3 S) (sC4 S) (sC5 S)
/-- a record is done again, or passed over -/
def again (S : SS) (r : Nat) : SS := if rK (sR S r) = 1 ∨ rK (sR S r) = 2 then (if sBs S (rP (sR S r)) ≠ 0 ∧ sBs S (rP (sR S r)) ≤ r ∧ (sPg S).2.1 (rP (sR S r)) < nI r then setC (setPg S (apP (sPg S) r (sR S r))) (sC2 S) (sC3 S + 1) (sC4 S) (sC5 S) else setC S (sC2 S) (sC3 S) (sC4 S + 1) (sC5 S)) else S
/-- a work is undone by one, or ends -/
def uoe (S : SS) (w : Nat) : SS := if 0 < (sT S w).2.2 then setC (und S w) (sC2 S) (sC3 S) (sC4 S) (sC5 S + 1) else emT S (rcW S 5 w)
noncomputable def stp (S : SS) : SS :=
  if sDo S = 1 then pas (setDo (look S (sAt S)) 1 (sAt S + 1)) else if sDo S = 2 then pas (setDo (again S (sAt S)) 2 (sAt S + 1)) else if sDo S = 3 then pas (emT S (rcW S 5 (lwD (sT S) 4 200))) else if sDo S = 4 then pas (uoe S (wuD (sT S) 200)) else pas S
noncomputable def stpL : Nat → SS → Nat × SS
  | 0, S => (0, S)
  | k + 1, S => if sDo S = 0 then (0, S) else ((stpL k (stp S)).1 + 1, (stpL k (stp S)).2)
/-- the i-th work of the table (0: none) -/
def nthW (T : TF) (i : Nat) : Nat → Nat
  | 0 => 0
  | m + 1 => if (T (m + 1)).1 ≠ 0 ∧ cardT T m = i then m + 1 else nthW T i m
abbrev xUNK : Int32 := -101
abbrev xOUT : Int32 := -102
abbrev xSTA : Int32 := -103
abbrev xROO : Int32 := -104
abbrev xDOW : Int32 := -105
/-- a number of 0 .. n - 1 -/
def inN (x : Int32) (n : Nat) : Prop := 0 ≤ x.toInt ∧ x.toInt < (n : Int)
abbrev cl (x : Int32) : Nat := x.toNatClampNeg
noncomputable section
def oBegin (S : SS) : Int32 × SS := if sDo S ≠ 0 then (xDOW, S) else if 200 ≤ sWk S ∨ 16 ≤ cardT (sT S) 200 then (xROO, S) else
  (nI (sWk S + 1), (S.1, S.2.1, (va_up (sT S) (sWk S + 1) (1, 0, 0), sBs S), S.2.2.2.1, (sLp S, sPt S, sWk S + 1, S.2.2.2.2.2.2.2)))
def oAdd (S : SS) (w p d m : Int32) : Int32 × SS := if sDo S ≠ 0 then (xDOW, S) else if (sT S (cl w)).1 = 0 then (xUNK, S) else
  @ite _ (inN p 64 ∧ inN d 8) (Classical.propDecidable _) (if (sT S (cl w)).1 ≠ 1 then (xSTA, S) else if 2000 ≤ sCh S then (xROO, S) else (nI (sN S + 1), emP S (rcC S (cl w) (cl p) (cl d) m))) (xOUT, S)
def oBack (S : SS) (w to : Int32) : Int32 × SS := if sDo S ≠ 0 then (xDOW, S) else if (sT S (cl w)).1 = 0 then (xUNK, S) else
  @ite _ (inN to ((sT S (cl w)).2.1 + 1)) (Classical.propDecidable _) (if (sT S (cl w)).1 ≠ 1 then (xSTA, S) else (nI (undL (sN S) S (cl w) (cl to)).1, (undL (sN S) S (cl w) (cl to)).2)) (xOUT, S)
def oPrep (S : SS) (w : Int32) : Int32 × SS := if sDo S ≠ 0 then (xDOW, S) else if (sT S (cl w)).1 = 0 then (xUNK, S) else if (sT S (cl w)).1 ≠ 1 then (xSTA, S) else (nI (sN S + 1), frc (emT S (rcW S 6 (cl w))) (sN S + 1))
def oComm (S : SS) (w : Int32) : Int32 × SS := if sDo S ≠ 0 then (xDOW, S) else if (sT S (cl w)).1 = 0 then (xUNK, S) else
  (nI (sN S + 1), emT (frc (emT S (rcW S 3 (cl w))) (sN S + 1)) (rcW (frc (emT S (rcW S 3 (cl w))) (sN S + 1)) 5 (cl w)))
def abo (S : SS) (w : Nat) : Nat × SS := undL (sN S + 1) (emT S (rcW S 4 w)) w 0
def oAbor (S : SS) (w : Int32) : Int32 × SS := if sDo S ≠ 0 then (xDOW, S) else if (sT S (cl w)).1 = 0 then (xUNK, S) else
  (nI (abo S (cl w)).1, emT (abo S (cl w)).2 (rcW (abo S (cl w)).2 5 (cl w)))
def oWrite (S : SS) (p : Int32) : Int32 × SS := if sDo S ≠ 0 then (xDOW, S) else @ite _ (inN p 64) (Classical.propDecidable _)
  (if sBs S (cl p) = 0 then (0, S) else (1, ((sN S, max (sFo S) (min (cl ((sPg S).2.1 (cl p))) (sN S)), S.1.2.2), ((sPg S).1, (sPg S).2.1, va_cpy (sPg S).1 (sPg S).2.2.1 (cl p * 8) (cl p * 8) 8, upd (sPg S).2.2.2 (cl p) ((sPg S).2.1 (cl p))), (sT S, va_up (sBs S) (cl p) 0), S.2.2.2))) (xOUT, S)
def oForce (S : SS) (n : Int32) : Int32 × SS := if sDo S ≠ 0 then (xDOW, S) else if n < 0 then (xOUT, S) else (nI (sFo (frc S (cl n))), frc S (cl n))
def rc0 (k : Nat) : Rc := (k, 0, 0, 0, 0, 0, 0)
def oPoint (S : SS) : Int32 × SS := if sDo S ≠ 0 then (xDOW, S) else if 100 ≤ sPt S then (xROO, S) else
  (nI (sN S + 1), frc (apL (apL S.1 (rc0 7)) (rc0 8), S.2.1, S.2.2.1, S.2.2.1, (sN S + 1, sPt S + 1, S.2.2.2.2.2.2)) (sN S + 2))
def kept (S : SS) (k : Nat) : Nat := sFo S + min k (sN S - sFo S)
def los (S : SS) (k : Nat) : SS := ((kept S k, kept S k, cntK (sR S) (kept S k), S.1.2.2.2), (va_cpy (sPg S).2.2.1 (sPg S).1 0 0 512, va_cpy (sPg S).2.2.2 (sPg S).2.1 0 0 64, (sPg S).2.2), (T0, fun _ => 0), S.2.2.2.1, (sLp S, sPt S, sWk S, 1, max (sLp S) 1, S.2.2.2.2.2.2.2.2.2))
def oLoss (S : SS) (k : Int32) : Int32 × SS := if k < 0 then (xOUT, S) else (nI (kept S (cl k)), pas (los S (cl k)))
def oRest (S : SS) (n : Int32) : Int32 × SS := if n < 0 then (xOUT, S) else (nI (stpL (cl n) S).1, (stpL (cl n) S).2)
def oWord (S : SS) (p d : Int32) : Int32 := @ite _ (inN p 64 ∧ inN d 8) (Classical.propDecidable _) ((sPg S).1 (cl p * 8 + cl d)) 0
def oPage (S : SS) (p t : Int32) : Int32 := @ite _ (inN p 64) (Classical.propDecidable _) (if t = 0 then (sPg S).2.1 (cl p) else if t = nI 1 then (if sBs S (cl p) = 0 then -1 else nI (sBs S (cl p))) else if t = nI 2 then (sPg S).2.2.2 (cl p) else xOUT) xOUT
def oTable (S : SS) (i t : Int32) : Int32 := if i < 0 ∨ nthW (sT S) (cl i) 200 = 0 then -1 else if t = 0 then nI (nthW (sT S) (cl i) 200) else if t = nI 1 then nI (sT S (nthW (sT S) (cl i) 200)).1 else if t = nI 2 then nI (sT S (nthW (sT S) (cl i) 200)).2.1 else if t = nI 3 then nI (sT S (nthW (sT S) (cl i) 200)).2.2 else -1
def rcF (x : Rc) (k : Nat) : Int32 := if k = 0 then nI (rK x) else if k = 1 then nI (rW x) else if k = 2 then nI (rB x) else if k = 3 then nI (rP x) else if k = 4 then nI (rD x) else if k = 5 then rM x else nI (rG x)
def oRec (S : SS) (n t : Int32) : Int32 := @ite _ (1 ≤ n.toInt ∧ n.toInt ≤ (sN S : Int) ∧ inN t 7) (Classical.propDecidable _) (rcF (sR S (cl n)) (cl t)) (-1)
def oCount (S : SS) (t : Int32) : Int32 := if t = 0 then nI (sN S) else if t = nI 1 then nI (sFo S) else if t = nI 2 then sC2 S else if t = nI 3 then sC3 S else if t = nI 4 then sC4 S else if t = nI 5 then sC5 S else xOUT
end
def S0 : SS := ((0, 0, 0, 896, fun _ => (0, 0, 0, 0, 0, 0, 0)), (fun _ => 0, fun _ => 0, fun _ => 0, fun _ => 0), (T0, fun _ => 0), (T0, fun _ => 0), (0, 0, 0, 0, 0, 0, 0, 0, 0))
