-- reading the reference's memory by the state
theorem YR.r {S M : mI} (h : YR S M) {j : Nat} (h1 : 1 ≤ j) (h2 : j ≤ 17) : M j = S j := h.2.1 j h1 h2
theorem YR.nv {S M : mI} (h : YR S M) : M 0 0 = nI (zNv S) := by rw [h.2.2.1]; exact h.1.1.1
theorem YR.ln {S M : mI} (h : YR S M) : M 0 1 = nI (zLn S) := by rw [h.2.2.2.1]; exact h.1.1.2.2.2.1
theorem YR.tot {S M : mI} (h : YR S M) : M 0 3 = S 0 3 := h.2.2.2.2.1
theorem YR.bc {S M : mI} (h : YR S M) : M 0 4 = nI (zBc S) := by rw [h.2.2.2.2.2.1]; exact h.1.1.2.2.2.2.2.2.1
theorem YR.pc {S M : mI} (h : YR S M) : M 0 9 = nI (zPc S) := by rw [h.2.2.2.2.2.2.1]; exact h.1.1.2.2.2.2.2.2.2.2.2.1
theorem YR.vc {S M : mI} (h : YR S M) : M 0 11 = nI (zVc S) := by rw [h.2.2.2.2.2.2.2]; exact h.1.1.2.2.2.2.2.2.2.2.2.2.2.1
/-- the lasting rows stay -/
def mG (I I' : mI) : Prop := (∀ a, 1 ≤ a → a ≤ 17 → I' a = I a) ∧ ∀ k, k < 23 → I' 0 k = I 0 k
def mF (I I' : mI) : Prop := mG I I' ∧ I' 22 = I 22
theorem mG.rf (I : mI) : mG I I := ⟨fun _ _ _ => rfl, fun _ _ => rfl⟩
theorem mG.tr {I I' I'' : mI} (h : mG I I') (h2 : mG I' I'') : mG I I'' := ⟨fun a h1 h3 => (h2.1 a h1 h3).trans (h.1 a h1 h3), fun k hk => (h2.2 k hk).trans (h.2 k hk)⟩
theorem mF.rf (I : mI) : mF I I := ⟨mG.rf I, rfl⟩
theorem mF.tr {I I' I'' : mI} (h : mF I I') (h2 : mF I' I'') : mF I I'' := ⟨h.1.tr h2.1, h2.2.trans h.2⟩
theorem mG_mu {I : mI} {j k : Nat} {x : Int32} (h : 17 < j ∨ (j = 0 ∧ 23 ≤ k)) : mG I (mu I j k x) := by
  refine ⟨fun a h1 h2 => mu_other _ _ _ (by omega), fun b hb => ?_⟩
  rw [mu_at, if_neg (by omega)]
theorem mF_mu {I : mI} {j k : Nat} {x : Int32} (h : (17 < j ∧ j ≠ 22) ∨ (j = 0 ∧ 23 ≤ k)) : mF I (mu I j k x) := ⟨mG_mu (by omega), mu_other _ _ _ (by omega)⟩
theorem YR.g {S I I' : mI} (h : YR S I) (hg : mG I I') : YR S I' := by
  obtain ⟨hw, h1, h2, h3, h4, h5, h6, h7⟩ := h
  refine ⟨hw, fun j a b => (hg.1 j a b).trans (h1 j a b), ?_, ?_, ?_, ?_, ?_, ?_⟩
  · rw [hg.2 0 (by omega)]; exact h2
  · rw [hg.2 1 (by omega)]; exact h3
  · rw [hg.2 3 (by omega)]; exact h4
  · rw [hg.2 4 (by omega)]; exact h5
  · rw [hg.2 9 (by omega)]; exact h6
  · rw [hg.2 11 (by omega)]; exact h7
theorem nar_bz (b : Bool) : vp_nar .boolean (bz b) = bz b := by cases b <;> rfl
theorem nar_0 : vp_nar .boolean 0 = 0 := rfl
theorem nar_1 : vp_nar .boolean 1 = 1 := rfl
theorem step_M {S I I1 I2 : mI} {q : sg} (hn : zNv S ≤ 7) (hq : mE q I) (hw : gW (zNv S) (zBc S) q) (h1 : ∀ a, a ≠ 18 → a ≠ 20 → a ≠ 21 → I1 a = I a) (hb : ∀ w, w < 7 → I1 18 w = (if w < zNv S ∧ I 20 w = 0 ∧ 0 < I 18 w then I 18 w - 1 else I 18 w) ∧ I1 21 w = (if w < zNv S then vp_nar .boolean (I 20 w) else I 21 w) ∧ I1 20 w = (if w < zNv S then 0 else I 20 w)) (h2 : I2 = mu I1 0 23 (I 0 23 + 1)) : mE (gStep (zNv S) q) I2 := by
  obtain ⟨q1, q2, q3, q4, q5, q6⟩ := hq
  have hv := hw.2.2.2.2.2
  have r : ∀ a, a ≠ 0 → I2 a = I1 a := fun a ha => by rw [h2, mu_other _ _ _ ha]
  have r0 : ∀ k, k ≠ 23 → I2 0 k = I 0 k := fun k hk => by rw [h2, mu_at, if_neg (fun y => hk y.2), h1 0 (by omega) (by omega) (by omega)]
  refine ⟨fun w hw7 => ?_, ?_, by rw [r0 28 (by omega)]; exact q3, by rw [r0 29 (by omega)]; exact q4, by rw [r0 30 (by omega)]; exact q5, by rw [r0 31 (by omega)]; exact q6⟩
  · obtain ⟨a1, a2, a3, a4⟩ := q1 w hw7
    obtain ⟨b1, b2, b3⟩ := hb w hw7
    rw [r 18 (by omega), r 19 (by omega), r 20 (by omega), r 21 (by omega), b1, b2, b3, h1 19 (by omega) (by omega) (by omega)]
    refine ⟨?_, a2, ?_, ?_⟩
    · show _ = gBal (zNv S) q w
      unfold gBal
      rw [a1, a3]
      by_cases c : w < zNv S ∧ gN q w = false ∧ 0 < gB q w
      · rw [if_pos ⟨c.1, bz_0.mpr c.2.1, c.2.2⟩, if_pos c]
      · rw [if_neg (fun y => c ⟨y.1, bz_0.mp y.2.1, y.2.2⟩), if_neg c]
    · show _ = bz false
      by_cases c : w < zNv S
      · rw [if_pos c]; rfl
      · rw [if_neg c, a3, (hv w (by omega)).1]
    · show _ = bz (gN q w)
      by_cases c : w < zNv S
      · rw [if_pos c, a3, nar_bz]
      · rw [if_neg c, a4, (hv w (by omega)).1, (hv w (by omega)).2]
  · rw [h2, mu_at, if_pos ⟨rfl, rfl⟩, q2, nI_1]
    rfl
/-- the state behind the counting of vote i, before it may justify -/
def gQc (S : mI) (q : sg) (s i : Nat) : sg := (gE q, gCb S q s i, gP q, gCn S q i, gCo S q i, gJe q, gJb q, gFe q, gFb q)
theorem cnt_M {S I I5 I9 I12 : mI} {q : sg} {s i p : Nat} (hv : zVr S i < 7) (hp : p < 7) (hps : s % zNv S = p) (hq : mE q I) (e5 : I5 = (if zVs S i / zLn S = gE q then mu I 20 (zVr S i) 1 else mu I 21 (zVr S i) 1)) (e9 : I9 = mu I5 18 (zVr S i) (I5 18 (zVr S i) + 2)) (e12 : I12 = mu I9 18 p (I9 18 p + 1)) : mE (gQc S q s i) I12 := by
  obtain ⟨q1, q2, q3, q4, q5, q6⟩ := hq
  have r5 : ∀ a, a ≠ 20 → a ≠ 21 → I5 a = I a := fun a h1 h2 => by
    rw [e5]
    by_cases c : zVs S i / zLn S = gE q
    · rw [if_pos c, mu_other _ _ _ h1]
    · rw [if_neg c, mu_other _ _ _ h2]
  have r12 : ∀ a, a ≠ 18 → I12 a = I5 a := fun a ha => by rw [e12, mu_other _ _ _ ha, e9, mu_other _ _ _ ha]
  have r0 : I12 0 = I 0 := by rw [r12 0 (by omega), r5 0 (by omega) (by omega)]
  have b9 : ∀ w, w < 7 → I9 18 w = upd (gB q) (zVr S i) (gB q (zVr S i) + 2) w := fun w hw => by
    rw [e9, mu_at, r5 18 (by omega) (by omega)]
    unfold upd
    by_cases ew : w = zVr S i
    · rw [if_pos ⟨rfl, ew⟩, if_pos ew, (q1 _ hv).1]
    · rw [if_neg (fun y => ew y.2), if_neg ew, (q1 w hw).1]
  refine ⟨fun w hw => ?_, by rw [r0]; exact q2, by rw [r0]; exact q3, by rw [r0]; exact q4, by rw [r0]; exact q5, by rw [r0]; exact q6⟩
  obtain ⟨a1, a2, a3, a4⟩ := q1 w hw
  refine ⟨?_, ?_, ?_, ?_⟩
  · rw [e12, mu_at]
    show _ = gCb S q s i w
    unfold gCb
    rw [hps, b9 p hp]
    by_cases ew : w = p
    · rw [if_pos ⟨rfl, ew⟩, ew, pk_us]
    · rw [if_neg (fun y => ew y.2), b9 w hw, pk_un ew]
  · rw [r12 19 (by omega), r5 19 (by omega) (by omega)]
    exact a2
  · rw [r12 20 (by omega), e5]
    show _ = bz (gCn S q i w)
    unfold gCn
    by_cases c : zVs S i / zLn S = gE q
    · rw [if_pos c, if_pos c, mu_at]
      unfold bU
      by_cases ew : w = zVr S i
      · rw [if_pos ⟨rfl, ew⟩, if_pos ew]; rfl
      · rw [if_neg (fun y => ew y.2), if_neg ew]; exact a3
    · rw [if_neg c, if_neg c, mu_other _ _ _ (by omega)]; exact a3
  · rw [r12 21 (by omega), e5]
    show _ = bz (gCo S q i w)
    unfold gCo
    by_cases c : zVs S i / zLn S = gE q
    · rw [if_pos c, if_pos c, mu_other _ _ _ (by omega)]; exact a4
    · rw [if_neg c, if_neg c, mu_at]
      unfold bU
      by_cases ew : w = zVr S i
      · rw [if_pos ⟨rfl, ew⟩, if_pos ew]; rfl
      · rw [if_neg (fun y => ew y.2), if_neg ew]; exact a4
theorem gCnt_lo {S : mI} {q : sg} {s i : Nat} (h : 3 * gCs S q i < 2 * S 0 3) : gCnt S q s i = gQc S q s i := by
  unfold gCnt
  rw [if_neg (Int32.not_le.mpr h)]
  rfl
theorem gCnt_hi {S : mI} {q : sg} {s i : Nat} (h : ¬ 3 * gCs S q i < 2 * S 0 3) : gCnt S q s i = (gE q, gCb S q s i, gP q, fun _ => false, fun _ => false, zTe S i, zTb S i, if zSe S i + 1 = zTe S i then zSe S i else gFe q, if zSe S i + 1 = zTe S i then zSb S i else gFb q) := by
  unfold gCnt
  rw [if_pos (Int32.not_lt.mp h)]
def zup (S : mI) (b : Nat) : Nat → Nat
  | 0 => b
  | k + 1 => zPar S (zup S b k)
