-- what class and reference both stand for: the reference's lasting rows, read as numbers
abbrev cN (x : Int32) : Nat := x.toNatClampNeg
def zNv (S : mI) : Nat := cN (S 0 0)
def zLn (S : mI) : Nat := cN (S 0 1)
def zBc (S : mI) : Nat := cN (S 0 4)
def zPc (S : mI) : Nat := cN (S 0 9)
def zVc (S : mI) : Nat := cN (S 0 11)
def zPar (S : mI) (b : Nat) : Nat := cN (S 2 b)
def zSl (S : mI) (b : Nat) : Nat := cN (S 3 b)
def zIc (S : mI) (b : Nat) : Nat := cN (S 4 b)
def zIt (S : mI) (b i : Nat) : Nat := cN (S 5 (4 * b + i))
def zNi (S : mI) (i : Nat) : Nat := cN (S 6 i)
def zVr (S : mI) (i : Nat) : Nat := cN (S 7 i)
def zVs (S : mI) (i : Nat) : Nat := cN (S 8 i)
def zVh (S : mI) (i : Nat) : Nat := cN (S 9 i)
def zSe (S : mI) (i : Nat) : Nat := cN (S 10 i)
def zSb (S : mI) (i : Nat) : Nat := cN (S 11 i)
def zTe (S : mI) (i : Nat) : Nat := cN (S 12 i)
def zTb (S : mI) (i : Nat) : Nat := cN (S 13 i)
def zKn (S : mI) (n b : Nat) : Bool := !decide (S 14 (60 * n + b) = 0)
def zHr (S : mI) (n i : Nat) : Bool := !decide (S 15 (80 * n + i) = 0)
def zNe (S : mI) (k : Nat) : Nat := cN (S 16 k)
def zNb (S : mI) (k : Nat) : Nat := cN (S 17 k)
theorem cN_nI {n : Nat} (h : n < 2 ^ 31) : cN (nI n) = n := nI_clamp h
/-- does b descend from c -/
def zDs (S : mI) : Nat → Nat → Nat → Bool
  | 0, b, c => decide (b = c)
  | n + 1, b, c => if b ≤ c then decide (b = c) else zDs S n (zPar S b) c
def zD (S : mI) (b c : Nat) : Bool := zDs S b b c
/-- the parents are older -/
def zUp (S : mI) : Prop := ∀ b, 0 < b → b < zBc S → zPar S b < b
theorem zDs_fuel {S : mI} (h : zUp S) : ∀ (n m b c : Nat), b < zBc S → b ≤ n → b ≤ m → zDs S n b c = zDs S m b c := by
  intro n
  induction n with
  | zero =>
    intro m b c hb h1 h2
    have hb0 : b = 0 := by omega
    subst hb0
    cases m with
    | zero => rfl
    | succ m => simp [zDs]
  | succ n ih =>
    intro m b c hb h1 h2
    cases m with
    | zero =>
      have hb0 : b = 0 := by omega
      subst hb0
      simp [zDs]
    | succ m =>
      simp only [zDs]
      by_cases hc : b ≤ c
      · rw [if_pos hc, if_pos hc]
      · rw [if_neg hc, if_neg hc]
        have hp := h b (by omega) hb
        exact ih m (zPar S b) c (by omega) (by omega) (by omega)
theorem zD_eq {S : mI} (h : zUp S) {b : Nat} (hb : b < zBc S) (c : Nat) : zD S b c = if b ≤ c then decide (b = c) else zD S (zPar S b) c := by
  unfold zD
  cases b with
  | zero => simp [zDs]
  | succ b =>
    by_cases hc : b + 1 ≤ c
    · simp only [zDs]
      rw [if_pos hc, if_pos hc]
    · rw [if_neg hc]
      have hp := h (b + 1) (by omega) hb
      conv => lhs; simp only [zDs]
      rw [if_neg hc]
      exact zDs_fuel h _ _ _ c (by omega) (by omega) (by omega)
theorem zD_self (S : mI) (b : Nat) : zD S b b = true := by
  unfold zD
  cases b <;> simp [zDs]
theorem zD_lt {S : mI} (h : zUp S) {b c : Nat} (hb : b < zBc S) (hc : b < c) : zD S b c = false := by
  rw [zD_eq h hb, if_pos (by omega)]
  simp
  omega
theorem zD_le {S : mI} (h : zUp S) {b c : Nat} (hb : b < zBc S) (hd : zD S b c = true) : c ≤ b := by
  by_cases hc : b < c
  · rw [zD_lt h hb hc] at hd
    cases hd
  · omega
theorem zD_up {S : mI} (h : zUp S) {b c : Nat} (hb : b < zBc S) (hc : c < b) : zD S b c = zD S (zPar S b) c := by
  rw [zD_eq h hb, if_neg (by omega)]
/-- the block of the checkpoint of epoch e on the chain of b -/
def zCf (S : mI) : Nat → Nat → Nat → Nat
  | 0, b, _ => b
  | n + 1, b, e => if zSl S b ≤ e * zLn S then b else zCf S n (zPar S b) e
def zC (S : mI) (b e : Nat) : Nat := zCf S b b e
theorem zCf_fuel {S : mI} (h : zUp S) (h0 : zSl S 0 = 0) : ∀ (n m b e : Nat), b < zBc S → b ≤ n → b ≤ m → zCf S n b e = zCf S m b e := by
  intro n
  induction n with
  | zero =>
    intro m b e hb h1 h2
    have hb0 : b = 0 := by omega
    subst hb0
    cases m with
    | zero => rfl
    | succ m => simp [zCf, h0]
  | succ n ih =>
    intro m b e hb h1 h2
    cases m with
    | zero =>
      have hb0 : b = 0 := by omega
      subst hb0
      simp [zCf, h0]
    | succ m =>
      simp only [zCf]
      by_cases hc : zSl S b ≤ e * zLn S
      · rw [if_pos hc, if_pos hc]
      · rw [if_neg hc, if_neg hc]
        have hb0 : 0 < b := by
          rcases Nat.eq_zero_or_pos b with hz | hz
          · subst hz
            rw [h0] at hc
            omega
          · exact hz
        have hp := h b hb0 hb
        exact ih m (zPar S b) e (by omega) (by omega) (by omega)
theorem zC_eq {S : mI} (h : zUp S) (h0 : zSl S 0 = 0) {b : Nat} (hb : b < zBc S) (e : Nat) : zC S b e = if zSl S b ≤ e * zLn S then b else zC S (zPar S b) e := by
  unfold zC
  cases b with
  | zero => simp [zCf, h0]
  | succ b =>
    by_cases hc : zSl S (b + 1) ≤ e * zLn S
    · simp only [zCf]
      rw [if_pos hc, if_pos hc]
    · rw [if_neg hc]
      have hp := h (b + 1) (by omega) hb
      conv => lhs; simp only [zCf]
      rw [if_neg hc]
      exact zCf_fuel h h0 _ _ _ e (by omega) (by omega) (by omega)
theorem zC_all {S : mI} (h : zUp S) (h0 : zSl S 0 = 0) (e : Nat) : ∀ (n b : Nat), b ≤ n → b < zBc S → zD S b (zC S b e) = true ∧ zSl S (zC S b e) ≤ e * zLn S ∧ zC S b e ≤ b ∧ ∀ d, zD S b d = true → zSl S d ≤ e * zLn S → d ≤ zC S b e := by
  intro n
  induction n with
  | zero =>
    intro b hn hb
    have hb0 : b = 0 := by omega
    subst hb0
    rw [zC_eq h h0 hb, if_pos (by rw [h0]; omega)]
    exact ⟨zD_self S 0, by rw [h0]; omega, Nat.le_refl _, fun d hd _ => zD_le h hb hd⟩
  | succ n ih =>
    intro b hn hb
    rw [zC_eq h h0 hb]
    by_cases hc : zSl S b ≤ e * zLn S
    · rw [if_pos hc]
      exact ⟨zD_self S b, hc, Nat.le_refl _, fun d hd _ => zD_le h hb hd⟩
    · rw [if_neg hc]
      have hb0 : 0 < b := by
        rcases Nat.eq_zero_or_pos b with hz | hz
        · subst hz
          rw [h0] at hc
          omega
        · exact hz
      have hp := h b hb0 hb
      obtain ⟨i1, i2, i3, i4⟩ := ih (zPar S b) (by omega) (by omega)
      refine ⟨?_, i2, by omega, fun d hd hs => ?_⟩
      · rw [zD_up h hb (by omega)]
        exact i1
      · have hdb := zD_le h hb hd
        have hne : d ≠ b := fun z => hc (z ▸ hs)
        rw [zD_up h hb (by omega)] at hd
        exact i4 d hd hs
/-- a block's state: epoch, balances, punished, counted now, counted before, justified (epoch, block), final (epoch, block) -/
abbrev sg : Type := Nat × (Nat → Int32) × (Nat → Bool) × (Nat → Bool) × (Nat → Bool) × Nat × Nat × Nat × Nat
def gE (q : sg) : Nat := q.1
def gB (q : sg) : Nat → Int32 := q.2.1
def gP (q : sg) : Nat → Bool := q.2.2.1
def gN (q : sg) : Nat → Bool := q.2.2.2.1
def gO (q : sg) : Nat → Bool := q.2.2.2.2.1
def gJe (q : sg) : Nat := q.2.2.2.2.2.1
def gJb (q : sg) : Nat := q.2.2.2.2.2.2.1
def gFe (q : sg) : Nat := q.2.2.2.2.2.2.2.1
def gFb (q : sg) : Nat := q.2.2.2.2.2.2.2.2
def bU (f : Nat → Bool) (k : Nat) : Nat → Bool := fun j => if j = k then true else f j
def g0 : sg := (0, fun _ => 32, fun _ => false, fun _ => false, fun _ => false, 0, 0, 0, 0)
def gBal (nv : Nat) (q : sg) : Nat → Int32 := fun v => if v < nv ∧ gN q v = false ∧ 0 < gB q v then gB q v - 1 else gB q v
def gStep (nv : Nat) (q : sg) : sg := (gE q + 1, gBal nv q, gP q, fun _ => false, gN q, gJe q, gJb q, gFe q, gFb q)
def gAdv (nv : Nat) : Nat → sg → sg
  | 0, q => q
  | k + 1, q => gAdv nv k (gStep nv q)
def gTo (nv : Nat) (q : sg) (e : Nat) : sg := gAdv nv (e - gE q) q
def zSum (S : mI) (f : Nat → Bool) : Nat → Int32
  | 0 => 0
  | n + 1 => zSum S f n + (if f n = true then S 1 n else 0)
/-- may vote i be counted in a block of slot s above p -/
def gOk (S : mI) (q : sg) (p s i : Nat) : Prop := zSe S i = gJe q ∧ zSb S i = gJb q ∧ zVs S i < s ∧ s ≤ zVs S i + zLn S ∧ zTb S i = zC S p (zVs S i / zLn S) ∧ (if zVs S i / zLn S = gE q then gN q (zVr S i) else gO q (zVr S i)) = false
def gCn (S : mI) (q : sg) (i : Nat) : Nat → Bool := if zVs S i / zLn S = gE q then bU (gN q) (zVr S i) else gN q
def gCo (S : mI) (q : sg) (i : Nat) : Nat → Bool := if zVs S i / zLn S = gE q then gO q else bU (gO q) (zVr S i)
def gCb (S : mI) (q : sg) (s i : Nat) : Nat → Int32 := upd (upd (gB q) (zVr S i) (gB q (zVr S i) + 2)) (s % zNv S) (upd (gB q) (zVr S i) (gB q (zVr S i) + 2) (s % zNv S) + 1)
def gCs (S : mI) (q : sg) (i : Nat) : Int32 := zSum S (if zVs S i / zLn S = gE q then gCn S q i else gCo S q i) (zNv S)
def gCnt (S : mI) (q : sg) (s i : Nat) : sg :=
  if 2 * S 0 3 ≤ 3 * gCs S q i then (gE q, gCb S q s i, gP q, fun _ => false, fun _ => false, zTe S i, zTb S i, if zSe S i + 1 = zTe S i then zSe S i else gFe q, if zSe S i + 1 = zTe S i then zSb S i else gFb q)
  else (gE q, gCb S q s i, gP q, gCn S q i, gCo S q i, gJe q, gJb q, gFe q, gFb q)
def gEv (S : mI) (q : sg) (s v : Nat) : sg := (gE q, upd (upd (gB q) v (gB q v / 2)) (s % zNv S) (upd (gB q) v (gB q v / 2) (s % zNv S) + 5), bU (gP q) v, gN q, gO q, gJe q, gJb q, gFe q, gFb q)
/-- does an item fit, and what it makes of the state -/
def gFit (S : mI) (q : sg) (p s x : Nat) : Prop := if x < 100 then gOk S q p s x else gP q (zVr S (x % 100)) = false
noncomputable def gItem (S : mI) (q : sg) (p s x : Nat) : sg := @ite _ (gFit S q p s x) (Classical.propDecidable _) (if x < 100 then gCnt S q s x else gEv S q s (zVr S (x % 100))) q
noncomputable def gFold (S : mI) (p s : Nat) (f : Nat → Nat) : Nat → sg → sg
  | 0, q => q
  | n + 1, q => gItem S (gFold S p s f n q) p s (f n)
noncomputable def gSt (S : mI) : Nat → Nat → sg
  | 0, _ => g0
  | n + 1, b => if b = 0 then g0 else gFold S (zPar S b) (zSl S b) (zIt S b) (zIc S b) (gTo (zNv S) (gSt S n (zPar S b)) (zSl S b / zLn S))
noncomputable def gS (S : mI) (b : Nat) : sg := gSt S b b
theorem gSt_fuel {S : mI} (h : zUp S) : ∀ (n m b : Nat), b < zBc S → b ≤ n → b ≤ m → gSt S n b = gSt S m b := by
  intro n
  induction n with
  | zero =>
    intro m b hb h1 h2
    have hb0 : b = 0 := by omega
    subst hb0
    cases m with
    | zero => rfl
    | succ m => simp [gSt]
  | succ n ih =>
    intro m b hb h1 h2
    cases m with
    | zero =>
      have hb0 : b = 0 := by omega
      subst hb0
      simp [gSt]
    | succ m =>
      simp only [gSt]
      by_cases hb0 : b = 0
      · rw [if_pos hb0, if_pos hb0]
      · rw [if_neg hb0, if_neg hb0]
        have hp := h b (by omega) hb
        rw [ih m (zPar S b) (by omega) (by omega) (by omega)]
theorem gS_0 (S : mI) : gS S 0 = g0 := rfl
theorem gS_eq {S : mI} (h : zUp S) {b : Nat} (hb : b < zBc S) (hb0 : 0 < b) : gS S b = gFold S (zPar S b) (zSl S b) (zIt S b) (zIc S b) (gTo (zNv S) (gS S (zPar S b)) (zSl S b / zLn S)) := by
  unfold gS
  cases b with
  | zero => omega
  | succ b =>
    have hp := h (b + 1) (by omega) hb
    conv => lhs; simp only [gSt]
    rw [if_neg (by omega), gSt_fuel h b (zPar S (b + 1)) (zPar S (b + 1)) (by omega) (by omega) (by omega)]
