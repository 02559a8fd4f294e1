def gw (n : Nat) (f : Nat → Nat × va_E) : va_W := (List.range n).map f
theorem gw_get {n j : Nat} {f : Nat → Nat × va_E} (h : j < n) : (gw n f)[j]? = some (f j) := by
  unfold gw
  rw [List.getElem?_map, List.getElem?_range h]
  rfl
theorem gw_len {n : Nat} {f : Nat → Nat × va_E} : (gw n f).length = n := by unfold gw; simp
theorem gw_none {n j : Nat} {f : Nat → Nat × va_E} (h : n ≤ j) : (gw n f)[j]? = none := List.getElem?_eq_none (by rw [gw_len]; exact h)
theorem gw_app {n k : Nat} {f g : Nat → Nat × va_E} {L : va_W} (hk : L.length = k) (h1 : ∀ j, j < n → g j = f j) (h2 : ∀ t, t < k → L[t]? = some (g (n + t))) : gw n f ++ L = gw (n + k) g := by
  apply List.ext_getElem?
  intro j
  by_cases hj : j < n
  · rw [List.getElem?_append_left (by rw [gw_len]; exact hj), gw_get hj, gw_get (by omega), h1 j hj]
  · rw [List.getElem?_append_right (by rw [gw_len]; omega), gw_len]
    by_cases hj2 : j < n + k
    · rw [h2 (j - n) (by omega), gw_get hj2, show n + (j - n) = j from by omega]
    · rw [gw_none (by omega), List.getElem?_eq_none (by omega)]
theorem gw_set {n j : Nat} {f g : Nat → Nat × va_E} {x : Nat × va_E} (hj : j < n) (h : g j = x) (h2 : ∀ i, i < n → i ≠ j → g i = f i) : (gw n f).set j x = gw n g := by
  apply List.ext_getElem?
  intro i
  by_cases hij : i = j
  · subst hij
    rw [List.getElem?_set_self (by rw [gw_len]; exact hj), gw_get hj, h]
  · rw [List.getElem?_set_ne (Ne.symm hij)]
    by_cases hi : i < n
    · rw [gw_get hi, gw_get hi, h2 i hi hij]
    · rw [gw_none (by omega), gw_none (by omega)]
abbrev rfA (cA : ClassId) (n : Nat) (h : Nat → Option Nat) : va_E := .inl (cA, n, .inr (.inr (.inr (.inr h))))
/-- the tree under construction -/
def fT (ca ad : Nat → Nat) (I : mI) (J : mJ) (L : List Value) (ib iv im : Nat) : Nat → Nat × va_E := fun j => (ad j, if j = 0 then .inr (5, L) else if j = 2 then rfA (ca 2) 60 (fun b => if b < ib then some (ad (3 + 6 * b)) else none) else if j = 363 then rfA (ca 3) 80 (fun b => if b < iv then some (ad (364 + b)) else none) else if j = 444 then rfA (ca 4) 3 (fun b => if b < im then some (ad (445 + 3 * b)) else none) else xmk ca ad j (I j) (J j))
def cln (n : Nat) : Prop := ∀ j, j < n → (xk j = 3 → j + 4 < n) ∧ (xk j = 4 → j + 2 < n) ∧ (xk j = 6 → j + 1 < n) ∧ (xk j = 10 → j + 2 < n)
theorem xmk_ag {ca ad ad' : Nat → Nat} {n j : Nat} {f : Nat → Int32} {g : Nat → Int64} (h : ∀ i, i < n → ad' i = ad i) (hc : cln n) (hj : j < n) (h0 : j ≠ 0) (h2 : j ≠ 2) (h3 : j ≠ 363) (h4 : j ≠ 444) : xmk ca ad' j f g = xmk ca ad j f g := by
  obtain ⟨c3, c4, c6, c10⟩ := hc j hj
  have hk : xk j = 1 ∨ xk j = 3 ∨ xk j = 4 ∨ xk j = 5 ∨ xk j = 6 ∨ xk j = 8 ∨ xk j = 10 ∨ xk j = 11 ∨ xk j = 99 := by
    unfold xk
    (repeat' split) <;> omega
  rcases hk with e | e | e | e | e | e | e | e | e
  · rw [xm_7 e, xm_7 e]
  · rw [xm_B e, xm_B e, h _ (by have := c3 e; omega), h _ (by have := c3 e; omega)]
  · rw [xm_I e, xm_I e, h _ (by have := c4 e; omega), h _ (by have := c4 e; omega)]
  · rw [xm_4 e, xm_4 e]
  · rw [xm_S e, xm_S e, h _ (by have := c6 e; omega)]
  · rw [xm_V e, xm_V e]
  · rw [xm_N e, xm_N e, h _ (by have := c10 e; omega), h _ (by have := c10 e; omega)]
  · rw [xm_Z e, xm_Z e]
  · simp only [xmk, e]
theorem rf_ag {ad ad' : Nat → Nat} {i : Nat} {o : Nat → Nat} (h : ∀ b, b < i → ad' (o b) = ad (o b)) : (fun b => if b < i then some (ad' (o b)) else none) = (fun b => if b < i then some (ad (o b)) else none) := by
  funext b
  by_cases e : b < i
  · rw [if_pos e, if_pos e, h b e]
  · rw [if_neg e, if_neg e]
theorem fT_ag {ca ad ad' : Nat → Nat} {n : Nat} {I : mI} {J : mJ} {L : List Value} {ib iv im : Nat} (h : ∀ i, i < n → ad' i = ad i) (hc : cln n) (hb : ∀ b, b < ib → 3 + 6 * b < n) (hv : ∀ b, b < iv → 364 + b < n) (hm : ∀ b, b < im → 445 + 3 * b < n) : ∀ j, j < n → fT ca ad' I J L ib iv im j = fT ca ad I J L ib iv im j := by
  intro j hj
  unfold fT
  rw [h j hj]
  congr 1
  by_cases e0 : j = 0
  · rw [if_pos e0, if_pos e0]
  rw [if_neg e0, if_neg e0]
  by_cases e2 : j = 2
  · rw [if_pos e2, if_pos e2, rf_ag (o := fun b => 3 + 6 * b) (fun b hb' => h _ (hb b hb'))]
  rw [if_neg e2, if_neg e2]
  by_cases e3 : j = 363
  · rw [if_pos e3, if_pos e3, rf_ag (o := fun b => 364 + b) (fun b hb' => h _ (hv b hb'))]
  rw [if_neg e3, if_neg e3]
  by_cases e4 : j = 444
  · rw [if_pos e4, if_pos e4, rf_ag (o := fun b => 445 + 3 * b) (fun b hb' => h _ (hm b hb'))]
  rw [if_neg e4, if_neg e4]
  exact xmk_ag h hc hj e0 e2 e3 e4
theorem fT_x {ca ad : Nat → Nat} {I : mI} {J : mJ} {L : List Value} {ib iv im j : Nat} (h0 : j ≠ 0) (h2 : j ≠ 2) (h3 : j ≠ 363) (h4 : j ≠ 444) : fT ca ad I J L ib iv im j = (ad j, xmk ca ad j (I j) (J j)) := by
  unfold fT
  rw [if_neg h0, if_neg h2, if_neg h3, if_neg h4]
/-- addresses that go on behind n -/
def adx (ad : Nat → Nat) (n : Nat) (l : List Nat) : Nat → Nat := fun j => if j < n then ad j else l.getD (j - n) 0
theorem adx_l {ad : Nat → Nat} {n : Nat} {l : List Nat} {j : Nat} (h : j < n) : adx ad n l j = ad j := if_pos h
theorem adx_r (ad : Nat → Nat) (n : Nat) (l : List Nat) (t : Nat) : adx ad n l (n + t) = l.getD t 0 := by
  unfold adx
  rw [if_neg (by omega), show n + t - n = t from by omega]
theorem up_rf {ad : Nat → Nat} {i : Nat} {o : Nat → Nat} : va_up (fun b => if b < i then some (ad (o b)) else none) i (some (ad (o i))) = (fun b => if b < i + 1 then some (ad (o b)) else none) := by
  funext b
  unfold va_up
  by_cases e : b = i
  · rw [if_pos e, if_pos (by omega), e]
  · rw [if_neg e]
    show (if b < i then some (ad (o b)) else none) = _
    by_cases c : b < i
    · rw [if_pos c, if_pos (by omega)]
    · rw [if_neg c, if_neg (by omega)]
theorem mm3 (a : Int32) : (if (3 : Int32) < (if a < 7 then a else 7) then (if a < 7 then a else 7) else 3) = cl3 a := by
  unfold cl3
  have e7 : (7 : Int32).toInt = 7 := rfl
  have e3 : (3 : Int32).toInt = 3 := rfl
  by_cases h : a < 7
  · rw [if_pos h]
    have g := Int32.lt_iff_toInt_lt.mp h
    by_cases h2 : 3 < a
    · have g2 := Int32.lt_iff_toInt_lt.mp h2
      rw [if_pos h2, if_pos (Int32.le_iff_toInt_le.mpr (by omega)), if_pos (Int32.le_iff_toInt_le.mpr (by omega))]
    · rw [if_neg h2]
      have g2 : ¬ (3 : Int32).toInt < a.toInt := fun z => h2 (Int32.lt_iff_toInt_lt.mpr z)
      by_cases h3 : 3 ≤ a
      · have g3 := Int32.le_iff_toInt_le.mp h3
        rw [if_pos h3, if_pos (Int32.le_iff_toInt_le.mpr (by omega))]
        exact Int32.toInt_inj.mp (by omega)
      · rw [if_neg h3]
  · rw [if_neg h]
    have g : ¬ a.toInt < (7 : Int32).toInt := fun z => h (Int32.lt_iff_toInt_lt.mpr z)
    rw [if_pos (by decide), if_pos (Int32.le_iff_toInt_le.mpr (by omega))]
    by_cases h2 : a ≤ 7
    · have g2 := Int32.le_iff_toInt_le.mp h2
      rw [if_pos h2]
      exact Int32.toInt_inj.mp (by omega)
    · rw [if_neg h2]
theorem mm2 (a : Int32) : (if (2 : Int32) < (if a < 5 then a else 5) then (if a < 5 then a else 5) else 2) = cl2 a := by
  unfold cl2
  have e7 : (5 : Int32).toInt = 5 := rfl
  have e3 : (2 : Int32).toInt = 2 := rfl
  by_cases h : a < 5
  · rw [if_pos h]
    have g := Int32.lt_iff_toInt_lt.mp h
    by_cases h2 : 2 < a
    · have g2 := Int32.lt_iff_toInt_lt.mp h2
      rw [if_pos h2, if_pos (Int32.le_iff_toInt_le.mpr (by omega)), if_pos (Int32.le_iff_toInt_le.mpr (by omega))]
    · rw [if_neg h2]
      have g2 : ¬ (2 : Int32).toInt < a.toInt := fun z => h2 (Int32.lt_iff_toInt_lt.mpr z)
      by_cases h3 : 2 ≤ a
      · have g3 := Int32.le_iff_toInt_le.mp h3
        rw [if_pos h3, if_pos (Int32.le_iff_toInt_le.mpr (by omega))]
        exact Int32.toInt_inj.mp (by omega)
      · rw [if_neg h3]
  · rw [if_neg h]
    have g : ¬ a.toInt < (5 : Int32).toInt := fun z => h (Int32.lt_iff_toInt_lt.mpr z)
    rw [if_pos (by decide), if_pos (Int32.le_iff_toInt_le.mpr (by omega))]
    by_cases h2 : a ≤ 5
    · have g2 := Int32.le_iff_toInt_le.mp h2
      rw [if_pos h2]
      exact Int32.toInt_inj.mp (by omega)
    · rw [if_neg h2]
def xI0 (nv ln a : Int32) : mI := fun j k =>
  if j = 0 then (if k = 0 then nv else if k = 1 then ln else if k = 3 then tE a (cN nv) else if k = 5 then 1 else 0)
  else if j = 1 then (if k < cN nv then wE a (nI k) else 0)
  else if xk j = 3 then (if k = 0 then -1 else 0)
  else if xk j = 1 then (if 444 < j ∧ j < 454 then -1 else 32)
  else 0
def xJ0 : mJ := fun j k => if xk j = 3 then (if k = 3 then 1 else 0) else if xk j = 10 then (if k = 0 then 1 else 0) else 0
theorem x0_3 {nv ln a : Int32} {j : Nat} (h : xk j = 3) (h0 : 2 < j) : xI0 nv ln a j = (fun k => if k = 0 then -1 else 0) ∧ xJ0 j = (fun k => if k = 3 then 1 else 0) := by
  refine ⟨?_, ?_⟩
  · funext k
    unfold xI0
    rw [if_neg (by omega), if_neg (by omega), if_pos h]
  · funext k
    unfold xJ0
    rw [if_pos h]
theorem x0_1 {nv ln a : Int32} {j : Nat} (h : xk j = 1) (h0 : 2 < j) : xI0 nv ln a j = (fun _ => if 444 < j ∧ j < 454 then -1 else 32) := by
  funext k
  unfold xI0
  rw [if_neg (by omega), if_neg (by omega), if_neg (by omega), if_pos h]
theorem x0_z {nv ln a : Int32} {j : Nat} (h3 : xk j ≠ 3) (h : xk j ≠ 1) (h0 : 2 < j) : xI0 nv ln a j = (fun _ => 0) := by
  funext k
  unfold xI0
  rw [if_neg (by omega), if_neg (by omega), if_neg h3, if_neg h]
theorem x0_10 {j : Nat} (h : xk j = 10) : xJ0 j = (fun k => if k = 0 then 1 else 0) := by
  funext k
  unfold xJ0
  rw [if_neg (by omega), if_pos h]

