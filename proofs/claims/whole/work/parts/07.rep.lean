-- what the class's memory, and the reference's, is of the state S
def bz (b : Bool) : Int32 := if b = true then 1 else 0
theorem bz_t : bz true = 1 := rfl
theorem bz_f : bz false = 0 := rfl
def oI : Option Nat → Int32
  | none => -1
  | some k => nI k
/-- the latest vote of v that node n has heard, among the first k -/
def zLf (S : mI) (n v : Nat) : Nat → Option Nat
  | 0 => none
  | k + 1 => if (zHr S n k && decide (zVr S k = v) && (match zLf S n v k with | none => true | some b => decide (zVs S b ≤ zVs S k))) = true then some k else zLf S n v k
/-- an item: one number of the reference, two of the class -/
def encIt (x a b : Int32) : Prop := (cN x < 100 ∧ a = x ∧ b = -1) ∨ (100 ≤ cN x ∧ a = nI (cN x % 100) ∧ b = nI (cN x / 100 - 1))
/-- the state object at j is q -/
def xE (q : sg) (I : mI) (j : Nat) : Prop := (∀ v, v < 7 → I (j + 1) v = gB q v) ∧ (∀ v, v < 7 → bt (I j 1) v = gP q v) ∧ I j 2 = nI (64 * gJe q + gJb q) ∧ I j 3 = nI (64 * gFe q + gFb q) ∧ I j 4 = nI (gE q) ∧ (∀ v, v < 7 → bt (I j 5) v = gN q v) ∧ (∀ v, v < 7 → bt (I j 6) v = gO q v)
def rxC (S I : mI) : Prop := I 0 0 = S 0 0 ∧ I 0 1 = S 0 1 ∧ I 0 3 = S 0 3 ∧ I 0 5 = S 0 4 ∧ I 0 7 = S 0 11 ∧ ∀ v, v < 7 → I 1 v = S 1 v
def rxV (S I : mI) : Prop := ∀ i, i < zVc S → I (364 + i) 0 = S 7 i ∧ I (364 + i) 1 = S 8 i ∧ I (364 + i) 2 = S 9 i ∧ I (364 + i) 3 = nI (64 * zSe S i + zSb S i) ∧ I (364 + i) 4 = nI (64 * zTe S i + zTb S i)
def rxB (S I : mI) (J : mJ) : Prop := ∀ b, b < zBc S → I (3 + 6 * b) 0 = S 2 b ∧ I (3 + 6 * b) 1 = S 3 b ∧ I (3 + 6 * b) 2 = (if b = 0 then 0 else nI (zSl S b % zNv S)) ∧ (∀ c, c < 60 → bL (J (3 + 6 * b) 3) c = zD S b c) ∧ I (3 + 6 * b + 1) 2 = S 4 b ∧ (∀ i, i < zIc S b → encIt (S 5 (4 * b + i)) (I (3 + 6 * b + 1 + 1) i) (I (3 + 6 * b + 1 + 2) i)) ∧ xE (gS S b) I (3 + 6 * b + 4)
def rxP (S I : mI) : Prop := I 454 2 = S 0 9 ∧ ∀ i, i < zPc S → encIt (S 6 i) (I (454 + 1) i) (I (454 + 2) i)
def rxN (S I : mI) (J : mJ) : Prop := ∀ n, n < 3 → (∀ b, b < 60 → bL (J (445 + 3 * n) 0) b = zKn S n b) ∧ (∀ i, i < 80 → I (445 + 3 * n + 1) i = S 15 (80 * n + i)) ∧ (∀ v, v < 7 → I (445 + 3 * n + 2) v = oI (zLf S n v (zVc S))) ∧ I (445 + 3 * n) 3 = nI (64 * zNe S (2 * n) + zNb S (2 * n)) ∧ I (445 + 3 * n) 4 = nI (64 * zNe S (2 * n + 1) + zNb S (2 * n + 1))
def RX (S I : mI) (J : mJ) : Prop := rxC S I ∧ rxV S I ∧ rxB S I J ∧ rxP S I ∧ rxN S I J
/-- the state is sound -/
def wC (S : mI) : Prop := S 0 0 = nI (zNv S) ∧ 3 ≤ zNv S ∧ zNv S ≤ 7 ∧ S 0 1 = nI (zLn S) ∧ 2 ≤ zLn S ∧ zLn S ≤ 5 ∧ S 0 4 = nI (zBc S) ∧ 1 ≤ zBc S ∧ zBc S ≤ 60 ∧ S 0 9 = nI (zPc S) ∧ zPc S ≤ 4 ∧ S 0 11 = nI (zVc S) ∧ zVc S ≤ 80
def wIt (S : mI) (x : Int32) : Prop := x = nI (cN x) ∧ (cN x < zVc S ∨ ∃ o t, o < zVc S ∧ t < zVc S ∧ cN x = o + 100 * (t + 1))
def wB (S : mI) : Prop := ∀ b, b < zBc S → S 3 b = nI (zSl S b) ∧ zSl S b ≤ 240 ∧ S 4 b = nI (zIc S b) ∧ zIc S b ≤ 4 ∧ (b = 0 → S 2 0 = -1 ∧ zSl S 0 = 0 ∧ zIc S 0 = 0) ∧ (0 < b → S 2 b = nI (zPar S b) ∧ zPar S b < b ∧ zSl S (zPar S b) < zSl S b) ∧ ∀ i, i < zIc S b → wIt S (S 5 (4 * b + i))
def wP (S : mI) : Prop := ∀ i, i < zPc S → wIt S (S 6 i)
def wV (S : mI) : Prop := ∀ i, i < zVc S → S 7 i = nI (zVr S i) ∧ zVr S i < zNv S ∧ S 8 i = nI (zVs S i) ∧ zVs S i ≤ 240 ∧ S 9 i = nI (zVh S i) ∧ zVh S i < zBc S ∧ S 10 i = nI (zSe S i) ∧ zSe S i ≤ 240 ∧ S 11 i = nI (zSb S i) ∧ zSb S i < zBc S ∧ S 12 i = nI (zTe S i) ∧ zTe S i = zVs S i / zLn S ∧ S 13 i = nI (zTb S i) ∧ zTb S i < zBc S ∧ zSe S i = gJe (gS S (zVh S i)) ∧ zSb S i = gJb (gS S (zVh S i)) ∧ zTb S i = zC S (zVh S i) (zTe S i)
def wN (S : mI) : Prop := ∀ n, n < 3 → (∀ k, k < 2 → S 16 (2 * n + k) = nI (zNe S (2 * n + k)) ∧ zNe S (2 * n + k) ≤ 240 ∧ S 17 (2 * n + k) = nI (zNb S (2 * n + k)) ∧ zNb S (2 * n + k) < zBc S) ∧ (∀ b, b < 60 → S 14 (60 * n + b) = 0 ∨ S 14 (60 * n + b) = 1) ∧ (∀ i, i < 80 → S 15 (80 * n + i) = 0 ∨ S 15 (80 * n + i) = 1) ∧ (∀ i, zVc S ≤ i → i < 80 → S 15 (80 * n + i) = 0)
def WF (S : mI) : Prop := wC S ∧ wB S ∧ wP S ∧ wV S ∧ wN S
def XR (S I : mI) (J : mJ) : Prop := WF S ∧ RX S I J
theorem WF.up {S : mI} (h : WF S) : zUp S := fun b h0 hb => ((h.2.1 b hb).2.2.2.2.2.1 h0).2.1
theorem WF.s0 {S : mI} (h : WF S) : zSl S 0 = 0 := ((h.2.1 0 (by have := h.1; unfold wC at this; omega)).2.2.2.2.1 rfl).2.1
/-- the reference's memory -/
def RY (S M : mI) : Prop := (∀ j, 1 ≤ j → j ≤ 17 → M j = S j) ∧ M 0 0 = S 0 0 ∧ M 0 1 = S 0 1 ∧ M 0 3 = S 0 3 ∧ M 0 4 = S 0 4 ∧ M 0 9 = S 0 9 ∧ M 0 11 = S 0 11
def mE (q : sg) (M : mI) : Prop := (∀ v, v < 7 → M 18 v = gB q v ∧ M 19 v = bz (gP q v) ∧ M 20 v = bz (gN q v) ∧ M 21 v = bz (gO q v)) ∧ M 0 23 = nI (gE q) ∧ M 0 28 = nI (gJe q) ∧ M 0 29 = nI (gJb q) ∧ M 0 30 = nI (gFe q) ∧ M 0 31 = nI (gFb q)
def YR (S M : mI) : Prop := WF S ∧ RY S M
