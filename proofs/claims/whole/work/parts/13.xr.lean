-- reading the class's memory by the state
theorem bz_0 {b : Bool} : bz b = 0 ↔ b = false := by cases b <;> decide
theorem bz_n0 {b : Bool} : ¬ bz b = 0 ↔ b = true := by cases b <;> decide
theorem fBit_bz (x : Int32) {v : Nat} (h : v < 31) : fBit x (nI v) = bz (bt x v) := by
  unfold fBit
  by_cases hc : (x >>> (nI v &&& 31)) &&& 1 = 0
  · rw [if_pos hc, (bi_in x h).mp hc]; rfl
  · rw [if_neg hc]
    cases hb : bt x v with
    | false => exact absurd ((bi_in x h).mpr hb) hc
    | true => rfl
theorem fLit_bz (x : Int64) {v : Nat} (h : v < 63) : fLit x (nI v) = bz (bL x v) := by
  unfold fLit
  by_cases hc : lg_cmp ((x >>> ((nI v).toInt64 &&& 63)) &&& 1) 0 = 0
  · rw [if_pos hc, (L_in x h).mp ((L_cmp _).mp hc)]; rfl
  · rw [if_neg hc]
    cases hb : bL x v with
    | false => exact absurd ((L_cmp _).mpr ((L_in x h).mpr hb)) hc
    | true => rfl
theorem fEp_ck {e b : Nat} (he : e < 1000) (hb : b < 64) : fEp (nI (64 * e + b)) = nI e := ck_ep he hb
theorem WF.b {S : mI} (h : WF S) : 3 ≤ zNv S ∧ zNv S ≤ 7 ∧ 2 ≤ zLn S ∧ zLn S ≤ 5 ∧ 1 ≤ zBc S ∧ zBc S ≤ 60 ∧ zPc S ≤ 4 ∧ zVc S ≤ 80 := by
  have hc := h.1
  unfold wC at hc
  omega
theorem XR.nv {S I : mI} {J : mJ} (h : XR S I J) : I 0 0 = nI (zNv S) := by rw [h.2.1.1]; exact h.1.1.1
theorem XR.ln {S I : mI} {J : mJ} (h : XR S I J) : I 0 1 = nI (zLn S) := by rw [h.2.1.2.1]; exact h.1.1.2.2.2.1
theorem XR.bc {S I : mI} {J : mJ} (h : XR S I J) : I 0 5 = nI (zBc S) := by rw [h.2.1.2.2.2.1]; exact h.1.1.2.2.2.2.2.2.1
theorem XR.vc {S I : mI} {J : mJ} (h : XR S I J) : I 0 7 = nI (zVc S) := by rw [h.2.1.2.2.2.2.1]; exact h.1.1.2.2.2.2.2.2.2.2.2.2.2.1
theorem XR.w {S I : mI} {J : mJ} (h : XR S I J) {v : Nat} (hv : v < 7) : I 1 v = S 1 v := h.2.1.2.2.2.2.2 v hv
theorem XR.v0 {S I : mI} {J : mJ} (h : XR S I J) {i : Nat} (hi : i < zVc S) : I (364 + i) 0 = nI (zVr S i) := by rw [(h.2.2.1 i hi).1]; exact (h.1.2.2.2.1 i hi).1
theorem XR.v1 {S I : mI} {J : mJ} (h : XR S I J) {i : Nat} (hi : i < zVc S) : I (364 + i) 1 = nI (zVs S i) := by rw [(h.2.2.1 i hi).2.1]; exact (h.1.2.2.2.1 i hi).2.2.1
theorem XR.v2 {S I : mI} {J : mJ} (h : XR S I J) {i : Nat} (hi : i < zVc S) : I (364 + i) 2 = nI (zVh S i) := by rw [(h.2.2.1 i hi).2.2.1]; exact (h.1.2.2.2.1 i hi).2.2.2.2.1
theorem XR.v3 {S I : mI} {J : mJ} (h : XR S I J) {i : Nat} (hi : i < zVc S) : I (364 + i) 3 = nI (64 * zSe S i + zSb S i) := (h.2.2.1 i hi).2.2.2.1
theorem XR.v4 {S I : mI} {J : mJ} (h : XR S I J) {i : Nat} (hi : i < zVc S) : I (364 + i) 4 = nI (64 * zTe S i + zTb S i) := (h.2.2.1 i hi).2.2.2.2
theorem WF.v {S : mI} (h : WF S) {i : Nat} (hi : i < zVc S) : zVr S i < zNv S ∧ zVs S i ≤ 240 ∧ zVh S i < zBc S ∧ zSe S i ≤ 240 ∧ zSb S i < zBc S ∧ zTe S i ≤ 240 ∧ zTb S i < zBc S ∧ zTe S i = zVs S i / zLn S := by
  obtain ⟨-, h1, -, h2, -, h3, -, h4, -, h5, -, h6, -, h7, -⟩ := h.2.2.2.1 i hi
  have := Nat.div_le_self (zVs S i) (zLn S)
  exact ⟨h1, h2, h3, h4, h5, by omega, h7, h6⟩
theorem XR.sl {S I : mI} {J : mJ} (h : XR S I J) {b : Nat} (hb : b < zBc S) : I (3 + 6 * b) 1 = nI (zSl S b) := by rw [(h.2.2.2.1 b hb).2.1]; exact (h.1.2.1 b hb).1
theorem XR.pa {S I : mI} {J : mJ} (h : XR S I J) {b : Nat} (hb : b < zBc S) : I (3 + 6 * b) 0 = S 2 b := (h.2.2.2.1 b hb).1
theorem XR.ch {S I : mI} {J : mJ} (h : XR S I J) {b c : Nat} (hb : b < zBc S) (hc : c < 60) : bL (J (3 + 6 * b) 3) c = zD S b c := (h.2.2.2.1 b hb).2.2.2.1 c hc
theorem WF.sl {S : mI} (h : WF S) {b : Nat} (hb : b < zBc S) : zSl S b ≤ 240 := (h.2.1 b hb).2.1
theorem zSum_congr (S : mI) {f g : Nat → Bool} : ∀ n, (∀ v, v < n → f v = g v) → zSum S f n = zSum S g n := by
  intro n
  induction n with
  | zero => intro _; rfl
  | succ n ih =>
    intro h
    simp only [zSum]
    rw [ih (fun v hv => h v (by omega)), h n (by omega)]
theorem zSum_t {S : mI} {f : Nat → Bool} {n : Nat} (h : f n = true) : zSum S f (n + 1) = zSum S f n + S 1 n := by simp only [zSum]; rw [if_pos h]
theorem zSum_f {S : mI} {f : Nat → Bool} {n : Nat} (h : f n = false) : zSum S f (n + 1) = zSum S f n := by
  simp only [zSum]
  rw [if_neg (by rw [h]; decide), Int32.add_zero]
/-- the last fitting block of a chain, seen from the first on -/
def zBst (S : mI) (n e : Nat) : Nat → Nat
  | 0 => 0
  | c + 1 => if zD S n c = true ∧ zSl S c ≤ e * zLn S then c else zBst S n e c
theorem zBst_all (S : mI) (n e : Nat) : ∀ c, (zBst S n e c = 0 ∨ (zBst S n e c < c ∧ zD S n (zBst S n e c) = true ∧ zSl S (zBst S n e c) ≤ e * zLn S)) ∧ ∀ d, d < c → zD S n d = true → zSl S d ≤ e * zLn S → d ≤ zBst S n e c := by
  intro c
  induction c with
  | zero => exact ⟨Or.inl rfl, fun d hd => by omega⟩
  | succ c ih =>
    simp only [zBst]
    by_cases h : zD S n c = true ∧ zSl S c ≤ e * zLn S
    · rw [if_pos h]
      exact ⟨Or.inr ⟨by omega, h.1, h.2⟩, fun d hd _ _ => by omega⟩
    · rw [if_neg h]
      refine ⟨?_, fun d hd h1 h2 => ?_⟩
      · rcases ih.1 with h1 | ⟨h1, h2, h3⟩
        · exact Or.inl h1
        · exact Or.inr ⟨by omega, h2, h3⟩
      · by_cases hdc : d = c
        · subst hdc
          exact absurd ⟨h1, h2⟩ h
        · exact ih.2 d (by omega) h1 h2
theorem zBst_zC {S : mI} (h : WF S) {n : Nat} (hn : n < zBc S) (e : Nat) : zBst S n e (n + 1) = zC S n e := by
  obtain ⟨h1, h2, h3, h4⟩ := zC_all h.up h.s0 e n n (Nat.le_refl _) hn
  obtain ⟨i1, i2⟩ := zBst_all S n e (n + 1)
  have a1 := i2 (zC S n e) (by omega) h1 h2
  rcases i1 with i1 | ⟨i1, i3, i4⟩
  · omega
  · have := h4 _ i3 i4
    omega
theorem fst_t {p : Nat → Bool} {k i : Nat} (h : p i = true) : zFst p (k + 1) i = some i := by simp only [zFst]; rw [if_pos h]
theorem fst_f {p : Nat → Bool} {k i : Nat} (h : p i = false) : zFst p (k + 1) i = zFst p k (i + 1) := by simp only [zFst]; rw [if_neg (by rw [h]; decide)]
theorem zKf_0 (S : mI) (n a : Nat) : ∀ c, c ≤ a + 1 → zKf S n a c = (none, -1) := by
  intro c
  induction c with
  | zero => intro _; rfl
  | succ c ih =>
    intro h
    simp only [zKf]
    rw [if_neg (fun q => by omega), ih (by omega)]
