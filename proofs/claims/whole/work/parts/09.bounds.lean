-- bounds of a block's state; the latest votes
def gW (nv bc : Nat) (q : sg) : Prop := gE q ≤ 240 ∧ gJe q ≤ 240 ∧ gJb q < bc ∧ gFe q ≤ 240 ∧ gFb q < bc ∧ ∀ v, nv ≤ v → gN q v = false ∧ gO q v = false
theorem gAdv_E (nv : Nat) : ∀ k q, gE (gAdv nv k q) = gE q + k := by
  intro k
  induction k with
  | zero => intro q; rfl
  | succ k ih =>
    intro q
    simp only [gAdv]
    rw [ih]
    show gE q + 1 + k = gE q + (k + 1)
    omega
theorem gTo_E (nv : Nat) {q : sg} {e : Nat} (h : gE q ≤ e) : gE (gTo nv q e) = e := by
  unfold gTo
  rw [gAdv_E]
  omega
theorem gStep_W {nv bc : Nat} {q : sg} (h : gW nv bc q) (he : gE q + 1 ≤ 240) : gW nv bc (gStep nv q) :=
  ⟨he, h.2.1, h.2.2.1, h.2.2.2.1, h.2.2.2.2.1, fun v hv => ⟨rfl, (h.2.2.2.2.2 v hv).1⟩⟩
theorem gAdv_W {nv bc : Nat} : ∀ k q, gW nv bc q → gE q + k ≤ 240 → gW nv bc (gAdv nv k q) := by
  intro k
  induction k with
  | zero => intro q h _; exact h
  | succ k ih =>
    intro q h he
    simp only [gAdv]
    refine ih _ (gStep_W h (by omega)) ?_
    show gE q + 1 + k ≤ 240
    omega
theorem gTo_W {nv bc : Nat} {q : sg} {e : Nat} (h : gW nv bc q) (h2 : gE q ≤ e) (he : e ≤ 240) : gW nv bc (gTo nv q e) := gAdv_W _ _ h (by omega)
theorem bU_out {f : Nat → Bool} {k v : Nat} (h : v ≠ k) : bU f k v = f v := if_neg h
theorem bU_in {f : Nat → Bool} {k : Nat} : bU f k k = true := if_pos rfl
theorem gCnt_W {S : mI} (hV : wV S) {q : sg} (h : gW (zNv S) (zBc S) q) (s : Nat) {i : Nat} (hi : i < zVc S) : gW (zNv S) (zBc S) (gCnt S q s i) := by
  have hv := hV i hi
  have hr : zVr S i < zNv S := hv.2.1
  have hte : zTe S i ≤ 240 := by
    rw [hv.2.2.2.2.2.2.2.2.2.2.2.1]
    exact Nat.le_trans (Nat.div_le_self _ _) hv.2.2.2.1
  unfold gCnt
  by_cases hc : 2 * S 0 3 ≤ 3 * gCs S q i
  · rw [if_pos hc]
    refine ⟨h.1, hte, hv.2.2.2.2.2.2.2.2.2.2.2.2.2.1, ?_, ?_, fun v _ => ⟨rfl, rfl⟩⟩
    · show (if zSe S i + 1 = zTe S i then zSe S i else gFe q) ≤ 240
      by_cases h2 : zSe S i + 1 = zTe S i
      · rw [if_pos h2]; exact hv.2.2.2.2.2.2.2.1
      · rw [if_neg h2]; exact h.2.2.2.1
    · show (if zSe S i + 1 = zTe S i then zSb S i else gFb q) < zBc S
      by_cases h2 : zSe S i + 1 = zTe S i
      · rw [if_pos h2]; exact hv.2.2.2.2.2.2.2.2.2.1
      · rw [if_neg h2]; exact h.2.2.2.2.1
  · rw [if_neg hc]
    refine ⟨h.1, h.2.1, h.2.2.1, h.2.2.2.1, h.2.2.2.2.1, fun v hv2 => ?_⟩
    have hq := h.2.2.2.2.2 v hv2
    show gCn S q i v = false ∧ gCo S q i v = false
    unfold gCn gCo
    by_cases h2 : zVs S i / zLn S = gE q
    · rw [if_pos h2, if_pos h2, bU_out (by omega)]
      exact hq
    · rw [if_neg h2, if_neg h2, bU_out (by omega)]
      exact hq
theorem gItem_E (S : mI) (q : sg) (p s x : Nat) : gE (gItem S q p s x) = gE q := by
  unfold gItem
  by_cases h : gFit S q p s x
  · rw [if_pos h]
    by_cases h1 : x < 100
    · rw [if_pos h1]
      unfold gCnt
      by_cases h2 : 2 * S 0 3 ≤ 3 * gCs S q x
      · rw [if_pos h2]; rfl
      · rw [if_neg h2]; rfl
    · rw [if_neg h1]; rfl
  · rw [if_neg h]
theorem gItem_W {S : mI} (hV : wV S) {q : sg} (h : gW (zNv S) (zBc S) q) (p s : Nat) {x : Nat} (hx : itV x < zVc S) : gW (zNv S) (zBc S) (gItem S q p s x) := by
  unfold gItem
  by_cases hf : gFit S q p s x
  · rw [if_pos hf]
    by_cases h1 : x < 100
    · rw [if_pos h1]
      unfold itV at hx
      rw [if_pos h1] at hx
      exact gCnt_W hV h s hx
    · rw [if_neg h1]
      exact ⟨h.1, h.2.1, h.2.2.1, h.2.2.2.1, h.2.2.2.2.1, h.2.2.2.2.2⟩
  · rw [if_neg hf]
    exact h
theorem gFold_W {S : mI} (hV : wV S) (p s : Nat) (f : Nat → Nat) {q : sg} (h : gW (zNv S) (zBc S) q) : ∀ n, (∀ i, i < n → itV (f i) < zVc S) → gW (zNv S) (zBc S) (gFold S p s f n q) ∧ gE (gFold S p s f n q) = gE q := by
  intro n
  induction n with
  | zero => intro _; exact ⟨h, rfl⟩
  | succ n ih =>
    intro hf
    obtain ⟨h1, h2⟩ := ih (fun i hi => hf i (by omega))
    simp only [gFold]
    exact ⟨gItem_W hV h1 p s (hf n (by omega)), by rw [gItem_E]; exact h2⟩
theorem g0_W {nv bc : Nat} (h : 0 < bc) : gW nv bc g0 := ⟨by show 0 ≤ 240; omega, by show 0 ≤ 240; omega, h, by show 0 ≤ 240; omega, h, fun _ _ => ⟨rfl, rfl⟩⟩
theorem WF.gs {S : mI} (h : WF S) : ∀ n b, b ≤ n → b < zBc S → gW (zNv S) (zBc S) (gS S b) ∧ gE (gS S b) = zSl S b / zLn S := by
  have hc := h.1
  unfold wC at hc
  intro n
  induction n with
  | zero =>
    intro b hn hb
    have hb0 : b = 0 := by omega
    subst hb0
    rw [gS_0, h.s0]
    exact ⟨g0_W (by omega), by show 0 = 0 / zLn S; simp⟩
  | succ n ih =>
    intro b hn hb
    by_cases hb0 : b = 0
    · subst hb0
      rw [gS_0, h.s0]
      exact ⟨g0_W (by omega), by show 0 = 0 / zLn S; simp⟩
    · have hB := h.2.1 b hb
      have hp := h.up b (by omega) hb
      obtain ⟨i1, i2⟩ := ih (zPar S b) (by omega) (by omega)
      have hs : zSl S (zPar S b) / zLn S ≤ zSl S b / zLn S := Nat.div_le_div_right (Nat.le_of_lt (hB.2.2.2.2.2.1 (by omega)).2.2)
      have hs2 : zSl S b / zLn S ≤ 240 := Nat.le_trans (Nat.div_le_self _ _) hB.2.1
      rw [gS_eq h.up hb (by omega)]
      obtain ⟨w1, w2⟩ := gFold_W h.2.2.2.1 (zPar S b) (zSl S b) (zIt S b) (gTo_W i1 (by rw [i2]; exact hs) hs2) (zIc S b) ((h.items b hb).2)
      exact ⟨w1, by rw [w2, gTo_E _ (by rw [i2]; exact hs)]⟩
theorem WF.g {S : mI} (h : WF S) {b : Nat} (hb : b < zBc S) : gW (zNv S) (zBc S) (gS S b) := (h.gs b b (Nat.le_refl _) hb).1
theorem WF.ge {S : mI} (h : WF S) {b : Nat} (hb : b < zBc S) : gE (gS S b) = zSl S b / zLn S := (h.gs b b (Nat.le_refl _) hb).2
/-- j is at most k in the order of the latest votes -/
def zLe (S : mI) (j k : Nat) : Prop := zVs S j < zVs S k ∨ (zVs S j = zVs S k ∧ j ≤ k)
theorem zLf_all (S : mI) (n v : Nat) : ∀ k, (∀ b, zLf S n v k = some b → b < k ∧ zHr S n b = true ∧ zVr S b = v ∧ ∀ j, j < k → zHr S n j = true → zVr S j = v → zLe S j b) ∧ (zLf S n v k = none → ∀ j, j < k → zHr S n j = true → zVr S j = v → False) := by
  intro k
  induction k with
  | zero =>
    refine ⟨fun b hb => ?_, fun _ j hj => ?_⟩
    · simp [zLf] at hb
    · omega
  | succ k ih =>
    by_cases hc : (zHr S n k && decide (zVr S k = v) && (match zLf S n v k with | none => true | some b => decide (zVs S b ≤ zVs S k))) = true
    · have e : zLf S n v (k + 1) = some k := by
        simp only [zLf]
        exact if_pos hc
      rw [e]
      simp only [Bool.and_eq_true, decide_eq_true_eq] at hc
      obtain ⟨⟨h1, h2⟩, h3⟩ := hc
      refine ⟨fun b hb => ?_, fun hn => by cases hn⟩
      cases hb
      refine ⟨by omega, h1, h2, fun j hj hj1 hj2 => ?_⟩
      by_cases hjk : j = k
      · subst hjk
        exact Or.inr ⟨rfl, Nat.le_refl _⟩
      · cases hz : zLf S n v k with
        | none => exact (ih.2 hz j (by omega) hj1 hj2).elim
        | some b =>
          rw [hz] at h3
          simp only [decide_eq_true_eq] at h3
          have := (ih.1 b hz).2.2.2 j (by omega) hj1 hj2
          unfold zLe at this ⊢
          omega
    · have e : zLf S n v (k + 1) = zLf S n v k := by
        simp only [zLf]
        exact if_neg hc
      rw [e]
      simp only [Bool.and_eq_true, decide_eq_true_eq] at hc
      refine ⟨fun b hb => ?_, fun hn j hj hj1 hj2 => ?_⟩
      · obtain ⟨i1, i2, i3, i4⟩ := ih.1 b hb
        refine ⟨by omega, i2, i3, fun j hj hj1 hj2 => ?_⟩
        by_cases hjk : j = k
        · subst hjk
          rw [hb] at hc
          simp only [decide_eq_true_eq] at hc
          have : ¬ zVs S b ≤ zVs S j := fun z => hc ⟨⟨hj1, hj2⟩, z⟩
          exact Or.inl (by omega)
        · exact i4 j (by omega) hj1 hj2
      · by_cases hjk : j = k
        · subst hjk
          rw [hn] at hc
          exact hc ⟨⟨hj1, hj2⟩, rfl⟩
        · exact ih.2 hn j (by omega) hj1 hj2
theorem zLf_is {S : mI} {n v k b : Nat} (h1 : b < k) (h2 : zHr S n b = true) (h3 : zVr S b = v) (h4 : ∀ j, j < k → zHr S n j = true → zVr S j = v → zLe S j b) : zLf S n v k = some b := by
  cases hz : zLf S n v k with
  | none => exact ((zLf_all S n v k).2 hz b h1 h2 h3).elim
  | some c =>
    obtain ⟨i1, i2, i3, i4⟩ := (zLf_all S n v k).1 c hz
    have a1 := i4 b h1 h2 h3
    have a2 := h4 c i1 i2 i3
    unfold zLe at a1 a2
    congr 1
    omega
theorem zLf_no {S : mI} {n v k : Nat} (h : ∀ j, j < k → zHr S n j = true → zVr S j = v → False) : zLf S n v k = none := by
  cases hz : zLf S n v k with
  | none => rfl
  | some c =>
    obtain ⟨i1, i2, i3, -⟩ := (zLf_all S n v k).1 c hz
    exact (h c i1 i2 i3).elim
/-- the first number from i on, k of them at most, that has p -/
def zFst (p : Nat → Bool) : Nat → Nat → Option Nat
  | 0, _ => none
  | k + 1, i => if p i = true then some i else zFst p k (i + 1)
