-- the calls: what each answers, and what it makes of the state
abbrev iBl (S : mI) (x : Int32) : Prop := ¬ x < 0 ∧ ¬ S 0 4 ≤ x
abbrev iVt (S : mI) (x : Int32) : Prop := ¬ x < 0 ∧ ¬ S 0 11 ≤ x
abbrev iVd (S : mI) (x : Int32) : Prop := ¬ x < 0 ∧ ¬ S 0 0 ≤ x
abbrev iNd (x : Int32) : Prop := ¬ x < 0 ∧ ¬ 3 ≤ x
noncomputable def zAddV (S : mI) (v h s : Int32) : mI := mu (mu (mu (mu (mu (mu (mu (mu S 7 (zVc S) v) 8 (zVc S) s) 9 (zVc S) h) 10 (zVc S) (nI (gJe (gS S (cN h))))) 11 (zVc S) (nI (gJb (gS S (cN h))))) 12 (zVc S) (nI (cN s / zLn S))) 13 (zVc S) (nI (zC S (cN h) (cN s / zLn S)))) 0 11 (nI (zVc S + 1))
noncomputable def oVote (S : mI) (v h s : Int32) : Int32 × mI :=
  if ¬ iVd S v ∨ ¬ iBl S h ∨ s < 0 ∨ 240 < s then (-1, S)
  else if cN s < zSl S (cN h) ∨ cN s / zLn S ≤ gJe (gS S (cN h)) then (-3, S)
  else match zFst (fun i => decide (S 7 i = v ∧ S 8 i = s ∧ S 9 i = h)) (zVc S) 0 with
    | some i => (nI i, S)
    | none => if zVc S = 80 then (-2, S) else (nI (zVc S), zAddV S v h s)
def oApp (S : mI) (x : Int32) : Int32 × mI := if zPc S = 4 then (-2, S) else (nI (zPc S + 1), mu (mu S 6 (zPc S) x) 0 9 (nI (zPc S + 1)))
def oInc (S : mI) (i : Int32) : Int32 × mI := if iVt S i then oApp S i else (-1, S)
def zCl (S : mI) (i j : Nat) : Bool := decide (i ≠ j) && (decide (zVr S i = zVr S j) && (decide (zTe S i = zTe S j) || ((decide (zSe S i < zSe S j) && decide (zTe S j < zTe S i)) || (decide (zSe S j < zSe S i) && decide (zTe S i < zTe S j)))))
def oAcc (S : mI) (i j : Int32) : Int32 × mI := if ¬ iVt S i ∨ ¬ iVt S j then (-1, S) else if zCl S (cN i) (cN j) = true then oApp S (nI (cN i + 100 * (cN j + 1))) else (-3, S)
def oClr (S : mI) : Int32 × mI := (S 0 9, mu S 0 9 0)
noncomputable def gPre (S : mI) (p s k : Nat) : sg := gFold S p s (zNi S) k (gTo (zNv S) (gS S p) (s / zLn S))
noncomputable def gBad (S : mI) (p s k : Nat) : Bool := !(@decide (gFit S (gPre S p s k) p s (zNi S k)) (Classical.propDecidable _))
def zRow5 (S : mI) : Nat → Int32 := fun k => if 4 * zBc S ≤ k ∧ k < 4 * zBc S + zPc S then S 6 (k - 4 * zBc S) else S 5 k
def zAddB (S : mI) (p s : Int32) : mI := mu (mu (mu (mu (mu (mrow S 5 (zRow5 S)) 2 (zBc S) p) 3 (zBc S) s) 4 (zBc S) (S 0 9)) 0 9 0) 0 4 (nI (zBc S + 1))
noncomputable def oPro (S : mI) (p s : Int32) : Int32 × mI :=
  if ¬ iBl S p ∨ s < 1 ∨ 240 < s then (-1, S)
  else if cN s ≤ zSl S (cN p) ∨ gP (gS S (cN p)) (cN s % zNv S) = true then (-3, S)
  else if zBc S = 60 then (-2, S)
  else match zFst (gBad S (cN p) (cN s)) (zPc S) 0 with
    | some i => (-10 - nI i, S)
    | none => (nI (zBc S), zAddB S p s)
noncomputable def rBlk (S : mI) (b w : Int32) : Int32 :=
  if ¬ iBl S b then -1 else if w = 0 then S 2 (cN b) else if w = 1 then S 3 (cN b) else if w = 2 then (if cN b = 0 then 0 else nI (zSl S (cN b) % zNv S)) else if w = 3 then S 4 (cN b)
  else if w = 4 then nI (gJe (gS S (cN b))) else if w = 5 then nI (gJb (gS S (cN b))) else if w = 6 then nI (gFe (gS S (cN b))) else if w = 7 then nI (gFb (gS S (cN b))) else -1
noncomputable def rBal (S : mI) (b v : Int32) : Int32 := if ¬ iBl S b ∨ ¬ iVd S v then -1 else gB (gS S (cN b)) (cN v)
noncomputable def rPun (S : mI) (b v : Int32) : Int32 := if ¬ iBl S b ∨ ¬ iVd S v then 0 else bz (gP (gS S (cN b)) (cN v))
noncomputable def rCtd (S : mI) (b x : Int32) : Int32 := if ¬ iBl S b then -1 else if x = nI (gE (gS S (cN b))) then zSum S (gN (gS S (cN b))) (zNv S) else if x = nI (gE (gS S (cN b))) - 1 then zSum S (gO (gS S (cN b))) (zNv S) else 0
def rBlt (S : mI) (i w : Int32) : Int32 :=
  if ¬ iVt S i then -1 else if w = 0 then S 7 (cN i) else if w = 1 then S 8 (cN i) else if w = 2 then S 9 (cN i) else if w = 3 then S 10 (cN i) else if w = 4 then S 11 (cN i) else if w = 5 then S 12 (cN i) else if w = 6 then S 13 (cN i) else -1
/-- node n hears vote i -/
def zHear (S : mI) (n i : Nat) : mI := mu S 15 (80 * n + i) 1
/-- node n hears the first k items of block b -/
def zItem (S : mI) (n x : Nat) : mI := if x < 100 then zHear S n x else zHear (zHear S n (x % 100)) n (x / 100 - 1)
def zItems (S : mI) (n b : Nat) : Nat → mI
  | 0 => S
  | k + 1 => zItem (zItems S n b k) n (zIt S b k)
def zFor (S : mI) (n r : Nat) : mI := mrow S 14 (fun k => if 60 * n ≤ k ∧ k < 60 * n + zBc S ∧ zD S (k - 60 * n) r = false then 0 else S 14 k)
noncomputable def zTk1 (S : mI) (n b : Nat) : mI := if zNe S (2 * n + 1) < gFe (gS S b) then zFor (mu (mu S 16 (2 * n + 1) (nI (gFe (gS S b)))) 17 (2 * n + 1) (nI (gFb (gS S b)))) n (gFb (gS S b)) else S
noncomputable def zTk2 (S T : mI) (n b : Nat) : mI := if (zNe S (2 * n + 1) < gFe (gS S b) ∧ zKn T n (zNb T (2 * n)) = false) ∨ zNe T (2 * n) < gJe (gS S b) then mu (mu T 16 (2 * n) (nI (gJe (gS S b)))) 17 (2 * n) (nI (gJb (gS S b))) else T
noncomputable def zTake (S : mI) (n b : Nat) : mI := zTk2 S (zTk1 S n b) n b
noncomputable def zGive (S : mI) (n b : Nat) : mI := zTake (zItems (mu S 14 (60 * n + b) 1) n b (zIc S b)) n b
noncomputable def oGiv (S : mI) (n b : Int32) : Int32 × mI := if ¬ iNd n ∨ ¬ iBl S b ∨ zKn S (cN n) (cN b) = true ∨ cN b = 0 ∨ zKn S (cN n) (zPar S (cN b)) = false then (0, S) else (1, zGive S (cN n) (cN b))
def oHea (S : mI) (n i : Int32) : Int32 × mI := if ¬ iNd n ∨ ¬ iVt S i ∨ zHr S (cN n) (cN i) = true then (0, S) else (1, zHear S (cN n) (cN i))
def rKno (S : mI) (n b : Int32) : Int32 := if ¬ iNd n ∨ ¬ iBl S b then 0 else bz (zKn S (cN n) (cN b))
def zSup (S : mI) (n c : Nat) : Int32 := zSum S (fun v => match zLf S n v (zVc S) with | none => false | some i => zD S (zVh S i) c) (zNv S)
def zKf (S : mI) (n a : Nat) : Nat → Option Nat × Int32
  | 0 => (none, -1)
  | c + 1 => if a < c ∧ zKn S n c = true ∧ S 2 c = nI a ∧ (zKf S n a c).2 < zSup S n c then (some c, zSup S n c) else zKf S n a c
def zKid (S : mI) (n a : Nat) : Option Nat := (zKf S n a (zBc S)).1
def zHd (S : mI) (n : Nat) : Nat → Nat → Nat
  | 0, a => a
  | k + 1, a => match zKid S n a with
    | none => a
    | some c => zHd S n k c
def rHed (S : mI) (n : Int32) : Int32 := if ¬ iNd n then -1 else nI (zHd S (cN n) 60 (zNb S (2 * cN n)))
def rCkp (S : mI) (n w : Int32) : Int32 := if ¬ iNd n then -1 else if w = 0 then S 16 (2 * cN n) else if w = 1 then S 17 (2 * cN n) else if w = 2 then S 16 (2 * cN n + 1) else if w = 3 then S 17 (2 * cN n + 1) else -1
def rCon (S : mI) (n m : Int32) : Int32 := if ¬ iNd n ∨ ¬ iNd m then 0 else bz (!zD S (zNb S (2 * cN n + 1)) (zNb S (2 * cN m + 1)) && !zD S (zNb S (2 * cN m + 1)) (zNb S (2 * cN n + 1)))
/-- has a node of the set heard vote i -/
def zAny (S : mI) (x : Int32) (i : Nat) : Bool := (bt x 0 && zHr S 0 i) || ((bt x 1 && zHr S 1 i) || (bt x 2 && zHr S 2 i))
def zQ (S : mI) (v x : Int32) (all : Bool) (i j : Nat) : Bool := decide (S 7 i = v) && (zCl S i j && (all || (zAny S x i && zAny S x j)))
def zPo (q : Nat → Nat → Bool) : Nat → Nat → Option Nat
  | 0, _ => none
  | k + 1, i => match zFst (q i) k (i + 1) with
    | some j => some (100 * i + j)
    | none => zPo q k (i + 1)
def rGui (S : mI) (x all : Int32) : Int32 := zSum S (fun v => (zPo (zQ S (nI v) x (!decide (all = 0))) (zVc S) 0).isSome) (zNv S)
def rPrf (S : mI) (v : Int32) : Int32 := if ¬ iVd S v then -1 else match zPo (zQ S v 7 false) (zVc S) 0 with | none => -3 | some x => nI x
