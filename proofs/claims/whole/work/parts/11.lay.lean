-- the class's objects by their order: 0 the tree, 1 int[7], 2 Block[60], 3 Block, 4 Items, 5 int[4], 6 State, 7 Vote[80], 8 Vote, 9 Node[3], 10 Node, 11 boolean[80]
def xk (j : Nat) : Nat :=
  if j < 3 then j else if j < 363 then (if (j - 3) % 6 = 0 then 3 else if (j - 3) % 6 = 1 then 4 else if (j - 3) % 6 = 4 then 6 else if (j - 3) % 6 = 5 then 1 else 5)
  else if j = 363 then 7 else if j < 444 then 8 else if j = 444 then 9 else if j < 454 then (if (j - 445) % 3 = 0 then 10 else if (j - 445) % 3 = 1 then 11 else 1)
  else if j = 454 then 4 else if j < 457 then 5 else if j = 457 then 6 else if j = 458 then 1 else 99
def xmk (ca ad : Nat → Nat) : mMk := fun j f g => match xk j with
  | 0 => .inr (5, [.int (f 0), .int (f 1), .ref (ad 1), .int (f 3), .ref (ad 2), .int (f 5), .ref (ad 363), .int (f 7), .ref (ad 444), .ref (ad 454), .ref (ad 457)])
  | 1 => .inl (ca 0, 7, .inl f)
  | 2 => .inl (ca 2, 60, .inr (.inr (.inr (.inr (fun b => some (ad (3 + 6 * b)))))))
  | 3 => .inr (0, [.int (f 0), .int (f 1), .int (f 2), .long (g 3), .ref (ad (j + 1)), .ref (ad (j + 4))])
  | 4 => .inr (1, [.ref (ad (j + 1)), .ref (ad (j + 2)), .int (f 2)])
  | 5 => .inl (ca 0, 4, .inl f)
  | 6 => .inr (3, [.ref (ad (j + 1)), .int (f 1), .int (f 2), .int (f 3), .int (f 4), .int (f 5), .int (f 6)])
  | 7 => .inl (ca 3, 80, .inr (.inr (.inr (.inr (fun b => some (ad (364 + b)))))))
  | 8 => .inr (4, [.int (f 0), .int (f 1), .int (f 2), .int (f 3), .int (f 4)])
  | 9 => .inl (ca 4, 3, .inr (.inr (.inr (.inr (fun b => some (ad (445 + 3 * b)))))))
  | 10 => .inr (2, [.long (g 0), .ref (ad (j + 1)), .ref (ad (j + 2)), .int (f 3), .int (f 4)])
  | _ => .inl (ca 1, 80, .inl f)
abbrev xty (ca : Nat → Nat) : List (ClassId × FieldType) := [(ca 0, .int), (ca 1, .boolean), (ca 2, .object "FinalityTree$Block"), (ca 3, .object "FinalityTree$Vote"), (ca 4, .object "FinalityTree$Node")]
theorem xk_lt {j k : Nat} (h : xk j = k) (hk : k ≠ 99) : j < 459 := by
  by_cases hj : j < 459
  · exact hj
  · exfalso
    apply hk
    rw [← h]
    unfold xk
    rw [if_neg (by omega), if_neg (by omega), if_neg (by omega), if_neg (by omega), if_neg (by omega), if_neg (by omega), if_neg (by omega), if_neg (by omega), if_neg (by omega), if_neg (by omega)]
theorem xm_F {ca ad : Nat → Nat} {j : Nat} (h : xk j = 0) (f : Nat → Int32) (g : Nat → Int64) : xmk ca ad j f g = .inr (5, [.int (f 0), .int (f 1), .ref (ad 1), .int (f 3), .ref (ad 2), .int (f 5), .ref (ad 363), .int (f 7), .ref (ad 444), .ref (ad 454), .ref (ad 457)]) := by simp only [xmk, h]
theorem xm_7 {ca ad : Nat → Nat} {j : Nat} (h : xk j = 1) (f : Nat → Int32) (g : Nat → Int64) : xmk ca ad j f g = .inl (ca 0, 7, .inl f) := by simp only [xmk, h]
theorem xm_BA {ca ad : Nat → Nat} {j : Nat} (h : xk j = 2) (f : Nat → Int32) (g : Nat → Int64) : xmk ca ad j f g = .inl (ca 2, 60, .inr (.inr (.inr (.inr (fun b => some (ad (3 + 6 * b))))))) := by simp only [xmk, h]
theorem xm_B {ca ad : Nat → Nat} {j : Nat} (h : xk j = 3) (f : Nat → Int32) (g : Nat → Int64) : xmk ca ad j f g = .inr (0, [.int (f 0), .int (f 1), .int (f 2), .long (g 3), .ref (ad (j + 1)), .ref (ad (j + 4))]) := by simp only [xmk, h]
theorem xm_I {ca ad : Nat → Nat} {j : Nat} (h : xk j = 4) (f : Nat → Int32) (g : Nat → Int64) : xmk ca ad j f g = .inr (1, [.ref (ad (j + 1)), .ref (ad (j + 2)), .int (f 2)]) := by simp only [xmk, h]
theorem xm_4 {ca ad : Nat → Nat} {j : Nat} (h : xk j = 5) (f : Nat → Int32) (g : Nat → Int64) : xmk ca ad j f g = .inl (ca 0, 4, .inl f) := by simp only [xmk, h]
theorem xm_S {ca ad : Nat → Nat} {j : Nat} (h : xk j = 6) (f : Nat → Int32) (g : Nat → Int64) : xmk ca ad j f g = .inr (3, [.ref (ad (j + 1)), .int (f 1), .int (f 2), .int (f 3), .int (f 4), .int (f 5), .int (f 6)]) := by simp only [xmk, h]
theorem xm_VA {ca ad : Nat → Nat} {j : Nat} (h : xk j = 7) (f : Nat → Int32) (g : Nat → Int64) : xmk ca ad j f g = .inl (ca 3, 80, .inr (.inr (.inr (.inr (fun b => some (ad (364 + b))))))) := by simp only [xmk, h]
theorem xm_V {ca ad : Nat → Nat} {j : Nat} (h : xk j = 8) (f : Nat → Int32) (g : Nat → Int64) : xmk ca ad j f g = .inr (4, [.int (f 0), .int (f 1), .int (f 2), .int (f 3), .int (f 4)]) := by simp only [xmk, h]
theorem xm_NA {ca ad : Nat → Nat} {j : Nat} (h : xk j = 9) (f : Nat → Int32) (g : Nat → Int64) : xmk ca ad j f g = .inl (ca 4, 3, .inr (.inr (.inr (.inr (fun b => some (ad (445 + 3 * b))))))) := by simp only [xmk, h]
theorem xm_N {ca ad : Nat → Nat} {j : Nat} (h : xk j = 10) (f : Nat → Int32) (g : Nat → Int64) : xmk ca ad j f g = .inr (2, [.long (g 0), .ref (ad (j + 1)), .ref (ad (j + 2)), .int (f 3), .int (f 4)]) := by simp only [xmk, h]
theorem xm_Z {ca ad : Nat → Nat} {j : Nat} (h : xk j = 11) (f : Nat → Int32) (g : Nat → Int64) : xmk ca ad j f g = .inl (ca 1, 80, .inl f) := by simp only [xmk, h]
theorem vp_lt {i : Int32} {n : Nat} (h : vp_in i n) : i.toNatClampNeg < n := Nat.not_le.mp fun q => h (Or.inr q)
theorem xk_b {b : Nat} (h : b < 60) : xk (3 + 6 * b) = 3 := by
  unfold xk
  rw [if_neg (by omega), if_pos (by omega), if_pos (by omega)]
theorem xk_B {i : Int32} (h : vp_in i 60) : xk (3 + 6 * i.toNatClampNeg) = 3 := xk_b (vp_lt h)
theorem xk_v {b : Nat} (h : b < 80) : xk (364 + b) = 8 := by
  unfold xk
  rw [if_neg (by omega), if_neg (by omega), if_neg (by omega), if_pos (by omega)]
theorem xk_V {i : Int32} (h : vp_in i 80) : xk (364 + i.toNatClampNeg) = 8 := xk_v (vp_lt h)
theorem xk_n {b : Nat} (h : b < 3) : xk (445 + 3 * b) = 10 := by
  unfold xk
  rw [if_neg (by omega), if_neg (by omega), if_neg (by omega), if_neg (by omega), if_neg (by omega), if_pos (by omega), if_pos (by omega)]
theorem xk_N {i : Int32} (h : vp_in i 3) : xk (445 + 3 * i.toNatClampNeg) = 10 := xk_n (vp_lt h)
theorem xk_all {j k : Nat} (h : xk j = k) : (k = 3 → xk (j + 1) = 4 ∧ xk (j + 4) = 6) ∧ (k = 4 → xk (j + 1) = 5 ∧ xk (j + 2) = 5) ∧ (k = 6 → xk (j + 1) = 1) ∧ (k = 10 → xk (j + 1) = 11 ∧ xk (j + 2) = 1) := by
  have key : ∀ j, j < 459 → (xk j = 3 → xk (j + 1) = 4 ∧ xk (j + 4) = 6) ∧ (xk j = 4 → xk (j + 1) = 5 ∧ xk (j + 2) = 5) ∧ (xk j = 6 → xk (j + 1) = 1) ∧ (xk j = 10 → xk (j + 1) = 11 ∧ xk (j + 2) = 1) := by decide +kernel
  subst h
  by_cases hk : xk j = 99
  · rw [hk]
    exact ⟨fun h => absurd h (by decide), fun h => absurd h (by decide), fun h => absurd h (by decide), fun h => absurd h (by decide)⟩
  · exact key j (xk_lt rfl hk)
theorem xk_BI {j : Nat} (h : xk j = 3) : xk (j + 1) = 4 := ((xk_all h).1 rfl).1
theorem xk_BS {j : Nat} (h : xk j = 3) : xk (j + 4) = 6 := ((xk_all h).1 rfl).2
theorem xk_I1 {j : Nat} (h : xk j = 4) : xk (j + 1) = 5 := ((xk_all h).2.1 rfl).1
theorem xk_I2 {j : Nat} (h : xk j = 4) : xk (j + 2) = 5 := ((xk_all h).2.1 rfl).2
theorem xk_SB {j : Nat} (h : xk j = 6) : xk (j + 1) = 1 := (xk_all h).2.2.1 rfl
theorem xk_NH {j : Nat} (h : xk j = 10) : xk (j + 1) = 11 := ((xk_all h).2.2.2 rfl).1
theorem xk_NL {j : Nat} (h : xk j = 10) : xk (j + 2) = 1 := ((xk_all h).2.2.2 rfl).2
-- the reference's: 0 the object, then its arrays in the order of its fields
def ymk (ca ad : Nat → Nat) : mMk := fun j f _ => match j with
  | 0 => .inr (6, [.int (f 0), .int (f 1), .ref (ad 1), .int (f 3), .int (f 4), .ref (ad 2), .ref (ad 3), .ref (ad 4), .ref (ad 5), .int (f 9), .ref (ad 6), .int (f 11), .ref (ad 7), .ref (ad 8), .ref (ad 9), .ref (ad 10), .ref (ad 11), .ref (ad 12), .ref (ad 13), .ref (ad 14), .ref (ad 15), .ref (ad 16), .ref (ad 17), .int (f 23), .ref (ad 18), .ref (ad 19), .ref (ad 20), .ref (ad 21), .int (f 28), .int (f 29), .int (f 30), .int (f 31), .ref (ad 22)])
  | 1 => .inl (ca 0, 7, .inl f)
  | 2 => .inl (ca 0, 60, .inl f)
  | 3 => .inl (ca 0, 60, .inl f)
  | 4 => .inl (ca 0, 60, .inl f)
  | 5 => .inl (ca 0, 240, .inl f)
  | 6 => .inl (ca 0, 4, .inl f)
  | 7 => .inl (ca 0, 80, .inl f)
  | 8 => .inl (ca 0, 80, .inl f)
  | 9 => .inl (ca 0, 80, .inl f)
  | 10 => .inl (ca 0, 80, .inl f)
  | 11 => .inl (ca 0, 80, .inl f)
  | 12 => .inl (ca 0, 80, .inl f)
  | 13 => .inl (ca 0, 80, .inl f)
  | 14 => .inl (ca 1, 180, .inl f)
  | 15 => .inl (ca 1, 240, .inl f)
  | 16 => .inl (ca 0, 6, .inl f)
  | 17 => .inl (ca 0, 6, .inl f)
  | 18 => .inl (ca 0, 7, .inl f)
  | 19 => .inl (ca 1, 7, .inl f)
  | 20 => .inl (ca 1, 7, .inl f)
  | 21 => .inl (ca 1, 7, .inl f)
  | _ => .inl (ca 0, 60, .inl f)
theorem sw_out {x : Int32} {lo hi : Int} (h : ¬ (lo ≤ x.toInt ∧ x.toInt ≤ hi)) : x.toInt < lo ∨ hi < x.toInt := by omega
theorem sw_ne {x : Int32} {k : Int32} {n : Int} (hn : k.toInt = n) (h : ¬ x = k) : x.toInt ≠ n := fun e => h (Int32.toInt_inj.mp (e.trans hn.symm))
