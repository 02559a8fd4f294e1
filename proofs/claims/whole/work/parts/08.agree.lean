-- two states that agree on their old blocks and votes
def zAg (S T : mI) (bc vc : Nat) : Prop := T 0 0 = S 0 0 ∧ T 0 1 = S 0 1 ∧ T 0 3 = S 0 3 ∧ T 1 = S 1 ∧ (∀ b, b < bc → T 2 b = S 2 b ∧ T 3 b = S 3 b ∧ T 4 b = S 4 b ∧ ∀ i, i < 4 → T 5 (4 * b + i) = S 5 (4 * b + i)) ∧ (∀ i, i < vc → T 7 i = S 7 i ∧ T 8 i = S 8 i ∧ T 9 i = S 9 i ∧ T 10 i = S 10 i ∧ T 11 i = S 11 i ∧ T 12 i = S 12 i ∧ T 13 i = S 13 i)
theorem zAg.nv {S T : mI} {bc vc : Nat} (h : zAg S T bc vc) : zNv T = zNv S := by unfold zNv; rw [h.1]
theorem zAg.ln {S T : mI} {bc vc : Nat} (h : zAg S T bc vc) : zLn T = zLn S := by unfold zLn; rw [h.2.1]
theorem zAg.par {S T : mI} {bc vc b : Nat} (h : zAg S T bc vc) (hb : b < bc) : zPar T b = zPar S b := by unfold zPar; rw [(h.2.2.2.2.1 b hb).1]
theorem zAg.sl {S T : mI} {bc vc b : Nat} (h : zAg S T bc vc) (hb : b < bc) : zSl T b = zSl S b := by unfold zSl; rw [(h.2.2.2.2.1 b hb).2.1]
theorem zAg.ic {S T : mI} {bc vc b : Nat} (h : zAg S T bc vc) (hb : b < bc) : zIc T b = zIc S b := by unfold zIc; rw [(h.2.2.2.2.1 b hb).2.2.1]
theorem zAg.it {S T : mI} {bc vc b i : Nat} (h : zAg S T bc vc) (hb : b < bc) (hi : i < 4) : zIt T b i = zIt S b i := by unfold zIt; rw [(h.2.2.2.2.1 b hb).2.2.2 i hi]
theorem zAg.vr {S T : mI} {bc vc i : Nat} (h : zAg S T bc vc) (hi : i < vc) : zVr T i = zVr S i := by unfold zVr; rw [(h.2.2.2.2.2 i hi).1]
theorem zAg.vs {S T : mI} {bc vc i : Nat} (h : zAg S T bc vc) (hi : i < vc) : zVs T i = zVs S i := by unfold zVs; rw [(h.2.2.2.2.2 i hi).2.1]
theorem zAg.vh {S T : mI} {bc vc i : Nat} (h : zAg S T bc vc) (hi : i < vc) : zVh T i = zVh S i := by unfold zVh; rw [(h.2.2.2.2.2 i hi).2.2.1]
theorem zAg.se {S T : mI} {bc vc i : Nat} (h : zAg S T bc vc) (hi : i < vc) : zSe T i = zSe S i := by unfold zSe; rw [(h.2.2.2.2.2 i hi).2.2.2.1]
theorem zAg.sb {S T : mI} {bc vc i : Nat} (h : zAg S T bc vc) (hi : i < vc) : zSb T i = zSb S i := by unfold zSb; rw [(h.2.2.2.2.2 i hi).2.2.2.2.1]
theorem zAg.te {S T : mI} {bc vc i : Nat} (h : zAg S T bc vc) (hi : i < vc) : zTe T i = zTe S i := by unfold zTe; rw [(h.2.2.2.2.2 i hi).2.2.2.2.2.1]
theorem zAg.tb {S T : mI} {bc vc i : Nat} (h : zAg S T bc vc) (hi : i < vc) : zTb T i = zTb S i := by unfold zTb; rw [(h.2.2.2.2.2 i hi).2.2.2.2.2.2]
theorem zAg.sum {S T : mI} {bc vc : Nat} (h : zAg S T bc vc) (f : Nat → Bool) : ∀ n, zSum T f n = zSum S f n := by
  intro n
  induction n with
  | zero => rfl
  | succ n ih => simp only [zSum]; rw [ih, h.2.2.2.1]
theorem zAg.ds {S T : mI} {bc vc : Nat} (h : zAg S T bc vc) (hU : zUp S) (hbc : bc ≤ zBc S) (c : Nat) : ∀ n b, b < bc → zDs T n b c = zDs S n b c := by
  intro n
  induction n with
  | zero => intro b _; rfl
  | succ n ih =>
    intro b hb
    simp only [zDs]
    by_cases hc : b ≤ c
    · rw [if_pos hc, if_pos hc]
    · rw [if_neg hc, if_neg hc, h.par hb]
      have := hU b (by omega) (by omega)
      exact ih _ (by omega)
theorem zAg.d {S T : mI} {bc vc : Nat} (h : zAg S T bc vc) (hU : zUp S) (hbc : bc ≤ zBc S) {b : Nat} (hb : b < bc) (c : Nat) : zD T b c = zD S b c := h.ds hU hbc c b b hb
theorem zAg.cf {S T : mI} {bc vc : Nat} (h : zAg S T bc vc) (hU : zUp S) (h0 : zSl S 0 = 0) (hbc : bc ≤ zBc S) (e : Nat) : ∀ n b, b < bc → zCf T n b e = zCf S n b e := by
  intro n
  induction n with
  | zero => intro b _; rfl
  | succ n ih =>
    intro b hb
    simp only [zCf]
    rw [h.sl hb, h.ln, h.par hb]
    by_cases hc : zSl S b ≤ e * zLn S
    · rw [if_pos hc, if_pos hc]
    · rw [if_neg hc, if_neg hc]
      have hb0 : 0 < b := by
        rcases Nat.eq_zero_or_pos b with hz | hz
        · subst hz
          rw [h0] at hc
          omega
        · exact hz
      have := hU b hb0 (by omega)
      exact ih _ (by omega)
theorem zAg.c {S T : mI} {bc vc : Nat} (h : zAg S T bc vc) (hU : zUp S) (h0 : zSl S 0 = 0) (hbc : bc ≤ zBc S) {b : Nat} (hb : b < bc) (e : Nat) : zC T b e = zC S b e := h.cf hU h0 hbc e b b hb
/-- the number of the vote (the first of two) that an item names -/
def itV (x : Nat) : Nat := if x < 100 then x else x % 100
theorem zAg.ok {S T : mI} {bc vc : Nat} (h : zAg S T bc vc) (hU : zUp S) (h0 : zSl S 0 = 0) (hbc : bc ≤ zBc S) (q : sg) {p : Nat} (hp : p < bc) (s : Nat) {i : Nat} (hi : i < vc) : gOk T q p s i = gOk S q p s i := by
  unfold gOk
  rw [h.se hi, h.sb hi, h.vs hi, h.tb hi, h.vr hi, h.ln, h.c hU h0 hbc hp]
theorem zAg.cnt {S T : mI} {bc vc : Nat} (h : zAg S T bc vc) (q : sg) (s : Nat) {i : Nat} (hi : i < vc) : gCnt T q s i = gCnt S q s i := by
  unfold gCnt gCs gCb gCn gCo
  rw [h.se hi, h.sb hi, h.vs hi, h.tb hi, h.te hi, h.vr hi, h.ln, h.nv, h.sum, h.2.2.1]
theorem zAg.item {S T : mI} {bc vc : Nat} (h : zAg S T bc vc) (hU : zUp S) (h0 : zSl S 0 = 0) (hbc : bc ≤ zBc S) (q : sg) {p : Nat} (hp : p < bc) (s : Nat) {x : Nat} (hx : itV x < vc) : gItem T q p s x = gItem S q p s x ∧ gFit T q p s x = gFit S q p s x := by
  have hf : gFit T q p s x = gFit S q p s x := by
    unfold gFit
    unfold itV at hx
    by_cases h1 : x < 100
    · rw [if_pos h1] at hx
      rw [if_pos h1, if_pos h1, h.ok hU h0 hbc q hp s hx]
    · rw [if_neg h1] at hx
      rw [if_neg h1, if_neg h1, h.vr hx]
  refine ⟨?_, hf⟩
  unfold gItem
  have e2 : (if x < 100 then gCnt T q s x else gEv T q s (zVr T (x % 100))) = (if x < 100 then gCnt S q s x else gEv S q s (zVr S (x % 100))) := by
    unfold itV at hx
    by_cases h1 : x < 100
    · rw [if_pos h1] at hx
      rw [if_pos h1, if_pos h1, h.cnt q s hx]
    · rw [if_neg h1] at hx
      rw [if_neg h1, if_neg h1, h.vr hx]
      unfold gEv
      rw [h.nv]
  rw [e2]
  congr 1
theorem zAg.fold {S T : mI} {bc vc : Nat} (h : zAg S T bc vc) (hU : zUp S) (h0 : zSl S 0 = 0) (hbc : bc ≤ zBc S) {p : Nat} (hp : p < bc) (s : Nat) {f g : Nat → Nat} (q : sg) : ∀ n, (∀ i, i < n → g i = f i ∧ itV (f i) < vc) → gFold T p s g n q = gFold S p s f n q := by
  intro n
  induction n with
  | zero => intro _; rfl
  | succ n ih =>
    intro hf
    simp only [gFold]
    rw [ih (fun i hi => hf i (by omega)), (hf n (by omega)).1]
    exact (h.item hU h0 hbc _ hp s (hf n (by omega)).2).1
theorem zAg.st {S T : mI} {bc vc : Nat} (h : zAg S T bc vc) (hU : zUp S) (h0 : zSl S 0 = 0) (hbc : bc ≤ zBc S) (hI : ∀ b, b < bc → zIc S b ≤ 4 ∧ ∀ i, i < zIc S b → itV (zIt S b i) < vc) : ∀ n b, b < bc → gSt T n b = gSt S n b := by
  intro n
  induction n with
  | zero => intro b _; rfl
  | succ n ih =>
    intro b hb
    simp only [gSt]
    by_cases hb0 : b = 0
    · rw [if_pos hb0, if_pos hb0]
    · rw [if_neg hb0, if_neg hb0, h.par hb, h.sl hb, h.ic hb, h.nv, h.ln]
      have hp := hU b (by omega) (by omega)
      rw [ih (zPar S b) (by omega)]
      exact h.fold hU h0 hbc (by omega) _ _ _ (fun i hi => ⟨h.it hb (by have := (hI b hb).1; omega), (hI b hb).2 i hi⟩)
theorem wIt.v {S : mI} {x : Int32} (h : wIt S x) (hv : zVc S ≤ 80) : itV (cN x) < zVc S := by
  obtain ⟨-, h | ⟨o, t, ho, ht, he⟩⟩ := h
  · unfold itV
    rw [if_pos (by omega)]
    exact h
  · unfold itV
    rw [if_neg (by omega), he]
    omega
theorem WF.items {S : mI} (h : WF S) : ∀ b, b < zBc S → zIc S b ≤ 4 ∧ ∀ i, i < zIc S b → itV (zIt S b i) < zVc S := by
  intro b hb
  have hc := h.1
  unfold wC at hc
  have h1 := h.2.1 b hb
  exact ⟨h1.2.2.2.1, fun i hi => (h1.2.2.2.2.2.2 i hi).v (by omega)⟩
theorem zAg.s {S T : mI} (hW : WF S) (h : zAg S T (zBc S) (zVc S)) {b : Nat} (hb : b < zBc S) : gS T b = gS S b := h.st hW.up hW.s0 (Nat.le_refl _) hW.items b b hb
