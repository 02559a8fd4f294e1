-- nodes and pending items: what a call makes of the state and of the class's memory
theorem wN.same {S T : mI} (h : wN S) (h14 : T 14 = S 14) (h15 : T 15 = S 15) (h16 : T 16 = S 16) (h17 : T 17 = S 17) (hbc : zBc T = zBc S) (hvc : zVc T = zVc S) : wN T := by
  intro n hn
  have := h n hn
  unfold zNe zNb at this ⊢
  rw [h14, h15, h16, h17, hbc, hvc]
  exact this
theorem wP.same {S T : mI} (h : wP S) (h6 : T 6 = S 6) (hpc : zPc T = zPc S) (hvc : zVc T = zVc S) : wP T := by
  intro i hi
  rw [hpc] at hi
  rw [h6]
  exact (h i hi).tr (by omega)
theorem rxP.same {S T I I' : mI} (h : rxP S I) (h6 : T 6 = S 6) (h9 : T 0 9 = S 0 9) (hI : ∀ j, 454 ≤ j → j < 457 → I' j = I j) : rxP T I' := by
  unfold rxP at h ⊢
  rw [hI 454 (by omega) (by omega), hI (454 + 1) (by omega) (by omega), hI (454 + 2) (by omega) (by omega), h6, h9, pc_of h9]
  exact h
theorem rxN.same {S T I I' : mI} {J J' : mJ} (h : rxN S I J) (h14 : T 14 = S 14) (h15 : T 15 = S 15) (h16 : T 16 = S 16) (h17 : T 17 = S 17) (h7 : T 7 = S 7) (h8 : T 8 = S 8) (hvc : zVc T = zVc S) (hI : ∀ j, 445 ≤ j → j < 454 → I' j = I j) (hJ : ∀ j, 445 ≤ j → j < 454 → J' j = J j) : rxN T I' J' := by
  intro n hn
  have h1 := h n hn
  have el : ∀ v, zLf T n v (zVc S) = zLf S n v (zVc S) := fun v => zLf_congr _ (fun j _ => ⟨by unfold zHr; rw [h15], by unfold zVr; rw [h7], by unfold zVs; rw [h8]⟩)
  rw [hI (445 + 3 * n) (by omega) (by omega), hI (445 + 3 * n + 1) (by omega) (by omega), hI (445 + 3 * n + 2) (by omega) (by omega), hJ (445 + 3 * n) (by omega) (by omega), h15, hvc]
  refine ⟨fun b hb => ?_, h1.2.1, fun v hv => ?_, ?_, ?_⟩
  · unfold zKn
    rw [h14]
    exact h1.1 b hb
  · rw [el v]
    exact h1.2.2.1 v hv
  · unfold zNe zNb
    rw [h16, h17]
    exact h1.2.2.2.1
  · unfold zNe zNb
    rw [h16, h17]
    exact h1.2.2.2.2
theorem XR.pcn {S I : mI} {J : mJ} (h : XR S I J) : S 0 9 = nI (zPc S) := h.1.1.2.2.2.2.2.2.2.2.2.1
theorem XR.pc {S I : mI} {J : mJ} (h : XR S I J) : I 454 2 = nI (zPc S) := by rw [h.2.2.2.2.1.1]; exact h.pcn
theorem XR.app {S I I' : mI} {J : mJ} (h : XR S I J) (hpc : zPc S < 4) {x a b : Int32} (hx : wIt S x) (he : encIt x a b) (hI : I' = mu (mu (mu I (454 + 1) (zPc S) a) (454 + 2) (zPc S) b) 454 2 (nI (zPc S + 1))) : XR (mu (mu S 6 (zPc S) x) 0 9 (nI (zPc S + 1))) I' J := by
  have hb := h.1.b
  have ep : zPc (mu (mu S 6 (zPc S) x) 0 9 (nI (zPc S + 1))) = zPc S + 1 := nI_clamp (by omega)
  have er : ∀ j, j < 454 → I' j = I j := fun j hj => by
    rw [hI, mu_other _ _ _ (by omega), mu_other _ _ _ (by omega), mu_other _ _ _ (by omega)]
  have t6 : ∀ i, (mu (mu S 6 (zPc S) x) 0 9 (nI (zPc S + 1))) 6 i = if i = zPc S then x else S 6 i := fun i => rfl
  refine h.tr (zAg.rows (fun j h1 h2 h3 => ?_) rfl rfl rfl _ _) rfl rfl (fun j hj => er j (by omega)) (fun _ _ => rfl) ?_ (by rw [ep]; omega) (fun i hi => ?_) (h.1.2.2.2.2.same rfl rfl rfl rfl rfl rfl) ?_ (h.2.2.2.2.2.same rfl rfl rfl rfl rfl rfl rfl (fun j _ hj => er j hj) (fun _ _ _ => rfl))
  · rw [mu_other _ _ _ (by omega), mu_other _ _ _ (by omega)]
  · rw [ep]; rfl
  · rw [ep] at hi
    rw [t6]
    by_cases q : i = zPc S
    · rw [if_pos q]
      exact hx.tr (Nat.le_refl _)
    · rw [if_neg q]
      exact (h.1.2.2.1 i (by omega)).tr (Nat.le_refl _)
  · have e2 : I' 454 2 = nI (zPc S + 1) := by rw [hI, mu_self]; rfl
    have e3 : ∀ i, I' (454 + 1) i = if i = zPc S then a else I (454 + 1) i := fun i => by rw [hI]; rfl
    have e4 : ∀ i, I' (454 + 2) i = if i = zPc S then b else I (454 + 2) i := fun i => by rw [hI]; rfl
    refine ⟨e2, fun i hi => ?_⟩
    rw [ep] at hi
    rw [t6, e3, e4]
    by_cases q : i = zPc S
    · rw [if_pos q, if_pos q, if_pos q]
      exact he
    · rw [if_neg q, if_neg q, if_neg q]
      exact h.2.2.2.2.1.2 i (by omega)
theorem XR.clr {S I : mI} {J : mJ} (h : XR S I J) : XR (mu S 0 9 0) (mu I 454 2 0) J := by
  have er : ∀ j, j < 454 → (mu I 454 2 0) j = I j := fun j hj => mu_other _ _ _ (by omega)
  have ep : zPc (mu S 0 9 0) = 0 := rfl
  refine h.tr (zAg.rows (fun j h1 h2 h3 => mu_other _ _ _ (by omega)) rfl rfl rfl _ _) rfl rfl (fun j hj => er j (by omega)) (fun _ _ => rfl) rfl (by rw [ep]; omega) (fun i hi => by rw [ep] at hi; omega) (h.1.2.2.2.2.same rfl rfl rfl rfl rfl rfl) ⟨rfl, fun i hi => by rw [ep] at hi; omega⟩ (h.2.2.2.2.2.same rfl rfl rfl rfl rfl rfl rfl (fun j _ hj => er j hj) (fun _ _ _ => rfl))
/-- a node hears -/
theorem hear_n {S : mI} {n i m j : Nat} (hi : i < 80) (hj : j < 80) : zHr (zHear S n i) m j = (zHr S m j || (decide (m = n) && decide (j = i))) := by
  unfold zHr zHear
  rw [mu_at]
  by_cases q : m = n ∧ j = i
  · rw [if_pos ⟨rfl, by omega⟩, decide_eq_true q.1, decide_eq_true q.2]
    simp
  · rw [if_neg (fun z => q ⟨by omega, by omega⟩)]
    have : (decide (m = n) && decide (j = i)) = false := by
      by_cases q1 : m = n
      · rw [decide_eq_false (fun z => q ⟨q1, z⟩), Bool.and_false]
      · rw [decide_eq_false q1, Bool.false_and]
    rw [this, Bool.or_false]
def zNew (S : mI) (n i : Nat) : Prop := match zLf S n (zVr S i) (zVc S) with
  | none => True
  | some b => zVs S b < zVs S i ∨ (zVs S b = zVs S i ∧ b < i)
theorem zLf_hear {S : mI} {n i : Nat} (hi : i < zVc S) (hv : zVc S ≤ 80) (v : Nat) : (v = zVr S i → zNew S n i → zLf (zHear S n i) n v (zVc S) = some i) ∧ ((v = zVr S i → ¬ zNew S n i) → zLf (zHear S n i) n v (zVc S) = zLf S n v (zVc S)) := by
  have hr : ∀ j, j < zVc S → zHr (zHear S n i) n j = (zHr S n j || decide (j = i)) := fun j hj => by
    rw [hear_n (by omega) (by omega), decide_eq_true rfl, Bool.true_and]
  have hh : zHr (zHear S n i) n i = true := by rw [hr i hi, decide_eq_true rfl, Bool.or_true]
  have up : ∀ j, j < zVc S → zHr S n j = true → zHr (zHear S n i) n j = true := fun j hj z => by rw [hr j hj, z, Bool.true_or]
  have dn : ∀ j, j < zVc S → zHr (zHear S n i) n j = true → zHr S n j = true ∨ j = i := fun j hj z => by
    rw [hr j hj] at z
    cases hz : zHr S n j with
    | true => exact Or.inl rfl
    | false =>
      rw [hz, Bool.false_or, decide_eq_true_eq] at z
      exact Or.inr z
  have le : ∀ a b, zLe (zHear S n i) a b = zLe S a b := fun _ _ => rfl
  constructor
  · intro hvv hn
    subst hvv
    refine zLf_is hi hh rfl (fun j hj h1 h2 => ?_)
    rw [le]
    unfold zNew at hn
    rcases dn j hj h1 with h3 | h3
    · cases hz : zLf S n (zVr S i) (zVc S) with
      | none => exact ((zLf_all S n _ _).2 hz j hj h3 h2).elim
      | some b =>
        rw [hz] at hn
        have hn : zVs S b < zVs S i ∨ (zVs S b = zVs S i ∧ b < i) := hn
        have := ((zLf_all S n _ _).1 b hz).2.2.2 j hj h3 h2
        unfold zLe at this ⊢
        omega
    · subst h3
      exact Or.inr ⟨rfl, Nat.le_refl _⟩
  · intro hn
    cases hz : zLf S n v (zVc S) with
    | none =>
      refine zLf_no (fun j hj h1 h2 => ?_)
      rcases dn j hj h1 with h3 | h3
      · exact (zLf_all S n _ _).2 hz j hj h3 h2
      · subst h3
        have e : v = zVr S j := h2.symm
        refine hn e ?_
        unfold zNew
        rw [← e, hz]
        trivial
    | some b =>
      obtain ⟨i1, i2, i3, i4⟩ := (zLf_all S n _ _).1 b hz
      refine zLf_is i1 (up b i1 i2) i3 (fun j hj h1 h2 => ?_)
      rw [le]
      rcases dn j hj h1 with h3 | h3
      · exact i4 j hj h3 h2
      · subst h3
        have e : v = zVr S j := h2.symm
        have h5 := hn e
        unfold zNew at h5
        rw [← e, hz] at h5
        have h5 : ¬ (zVs S b < zVs S j ∨ (zVs S b = zVs S j ∧ b < j)) := h5
        unfold zLe
        omega
theorem XR.hear {S I I' : mI} {J : mJ} (h : XR S I J) {n i : Nat} (hn : n < 3) (hi : i < zVc S) (hr : ∀ j, j ≠ 445 + 3 * n + 1 → j ≠ 445 + 3 * n + 2 → I' j = I j) (h1 : I' (445 + 3 * n + 1) = upd (I (445 + 3 * n + 1)) i 1) (hy : zNew S n i → I' (445 + 3 * n + 2) = upd (I (445 + 3 * n + 2)) (zVr S i) (nI i)) (hno : ¬ zNew S n i → I' (445 + 3 * n + 2) = I (445 + 3 * n + 2)) : XR (zHear S n i) I' J := by
  have hb := h.1.b
  have hc := h.1.1
  unfold wC at hc
  refine h.tr (zAg.rows (fun j h1 h2 h3 => mu_other _ _ _ (by omega)) rfl rfl rfl _ _) rfl rfl (fun j hj => hr j (by omega) (by omega)) (fun _ _ => rfl) hc.2.2.2.2.2.2.2.2.2.1 hc.2.2.2.2.2.2.2.2.2.2.1 (h.1.2.2.1.same rfl rfl rfl) (fun m hm => ?_) (h.2.2.2.2.1.same rfl rfl (fun j _ _ => hr j (by omega) (by omega))) (fun m hm => ?_)
  · obtain ⟨w1, w2, w3, w4⟩ := h.1.2.2.2.2 m hm
    refine ⟨w1, w2, fun j hj => ?_, fun j hj hj2 => ?_⟩
    · unfold zHear
      rw [mu_at]
      by_cases q : 15 = 15 ∧ 80 * m + j = 80 * n + i
      · rw [if_pos q]; exact Or.inr rfl
      · rw [if_neg q]; exact w3 j hj
    · have hj : zVc S ≤ j := hj
      unfold zHear
      rw [mu_at, if_neg (fun q => by omega)]
      exact w4 j hj hj2
  · obtain ⟨r1, r2, r3, r4, r5⟩ := h.2.2.2.2.2 m hm
    have e0 : I' (445 + 3 * m) = I (445 + 3 * m) := hr _ (by omega) (by omega)
    rw [e0]
    refine ⟨r1, fun j hj => ?_, fun v hv => ?_, r4, r5⟩
    · unfold zHear
      rw [mu_at]
      by_cases hmn : m = n
      · subst hmn
        rw [h1]
        unfold upd
        by_cases q : j = i
        · rw [if_pos q, if_pos ⟨rfl, by omega⟩]
        · rw [if_neg q, if_neg (fun z => q (by omega))]
          exact r2 j hj
      · rw [hr _ (by omega) (by omega), if_neg (fun z => by omega)]
        exact r2 j hj
    · have ev : zVc (zHear S n i) = zVc S := rfl
      rw [ev]
      by_cases hmn : m = n
      · subst hmn
        obtain ⟨z1, z2⟩ := zLf_hear (S := S) (n := m) hi (by omega) v
        by_cases hw : zNew S m i
        · rw [hy hw]
          unfold upd
          by_cases q : v = zVr S i
          · rw [if_pos q, z1 q hw]
            rfl
          · rw [if_neg q, z2 (fun z => absurd z q)]
            exact r3 v hv
        · rw [hno hw, z2 (fun _ => hw)]
          exact r3 v hv
      · rw [hr _ (by omega) (by omega), r3 v hv]
        refine congrArg oI (zLf_congr (S := S) (T := zHear S n i) (zVc S) (fun j hj => ⟨?_, rfl, rfl⟩)).symm
        rw [hear_n (by omega) (by omega), decide_eq_false hmn, Bool.false_and, Bool.or_false]
/-- a node's checkpoint is set -/
theorem XR.setn {S I I' : mI} {J : mJ} (h : XR S I J) {n k e b : Nat} (hn : n < 3) (hk : k < 2) (he : e ≤ 240) (hb0 : b < zBc S) (hI : I' = mu I (445 + 3 * n) (3 + k) (nI (64 * e + b))) : XR (mu (mu S 16 (2 * n + k) (nI e)) 17 (2 * n + k) (nI b)) I' J := by
  have hb := h.1.b
  have hc := h.1.1
  unfold wC at hc
  have er : ∀ j, j ≠ 445 + 3 * n → I' j = I j := fun j hj => by rw [hI]; exact mu_other _ _ _ hj
  have t16 : ∀ q, (mu (mu S 16 (2 * n + k) (nI e)) 17 (2 * n + k) (nI b)) 16 q = if q = 2 * n + k then nI e else S 16 q := fun q => rfl
  have t17 : ∀ q, (mu (mu S 16 (2 * n + k) (nI e)) 17 (2 * n + k) (nI b)) 17 q = if q = 2 * n + k then nI b else S 17 q := fun q => rfl
  have ne : ∀ q, zNe (mu (mu S 16 (2 * n + k) (nI e)) 17 (2 * n + k) (nI b)) q = if q = 2 * n + k then e else zNe S q := fun q => by
    unfold zNe
    rw [t16]
    by_cases z : q = 2 * n + k
    · rw [if_pos z, if_pos z]; exact nI_clamp (by omega)
    · rw [if_neg z, if_neg z]
  have nb : ∀ q, zNb (mu (mu S 16 (2 * n + k) (nI e)) 17 (2 * n + k) (nI b)) q = if q = 2 * n + k then b else zNb S q := fun q => by
    unfold zNb
    rw [t17]
    by_cases z : q = 2 * n + k
    · rw [if_pos z, if_pos z]; exact nI_clamp (by omega)
    · rw [if_neg z, if_neg z]
  refine h.tr (zAg.rows (fun j h1 h2 h3 => ?_) rfl rfl rfl _ _) rfl rfl (fun j hj => er j (by omega)) (fun _ _ => rfl) hc.2.2.2.2.2.2.2.2.2.1 hc.2.2.2.2.2.2.2.2.2.2.1 (h.1.2.2.1.same rfl rfl rfl) (fun m hm => ?_) (h.2.2.2.2.1.same rfl rfl (fun j _ _ => er j (by omega))) (fun m hm => ?_)
  · rw [mu_other _ _ _ (by omega), mu_other _ _ _ (by omega)]
  · obtain ⟨w1, w2, w3, w4⟩ := h.1.2.2.2.2 m hm
    refine ⟨fun c hc => ?_, w2, w3, w4⟩
    rw [t16, t17, ne, nb]
    by_cases z : 2 * m + c = 2 * n + k
    · rw [if_pos z, if_pos z, if_pos z, if_pos z]
      exact ⟨rfl, he, rfl, hb0⟩
    · rw [if_neg z, if_neg z, if_neg z, if_neg z]
      exact w1 c hc
  · obtain ⟨r1, r2, r3, r4, r5⟩ := h.2.2.2.2.2 m hm
    rw [er (445 + 3 * m + 1) (by omega), er (445 + 3 * m + 2) (by omega)]
    refine ⟨r1, r2, fun v hv => ?_, ?_, ?_⟩
    · rw [r3 v hv]
      exact congrArg oI (zLf_congr (S := S) (T := mu (mu S 16 (2 * n + k) (nI e)) 17 (2 * n + k) (nI b)) (zVc S) (fun _ _ => ⟨rfl, rfl, rfl⟩)).symm
    · rw [ne, nb, hI, mu_at]
      by_cases z : 2 * m = 2 * n + k
      · rw [if_pos z, if_pos z, if_pos ⟨by omega, by omega⟩]
      · rw [if_neg z, if_neg z, if_neg (fun q => by omega)]
        exact r4
    · rw [ne, nb, hI, mu_at]
      by_cases z : 2 * m + 1 = 2 * n + k
      · rw [if_pos z, if_pos z, if_pos ⟨by omega, by omega⟩]
      · rw [if_neg z, if_neg z, if_neg (fun q => by omega)]
        exact r5
/-- a node's known blocks change -/
theorem XR.setk {S I : mI} {J J' : mJ} (h : XR S I J) {f : Nat → Int32} {n : Nat} (hn : n < 3) (hf : ∀ q, (q < 60 * n ∨ 60 * n + 60 ≤ q) → f q = S 14 q) (hf2 : ∀ q, f q = S 14 q ∨ f q = 0 ∨ f q = 1) (hJ : ∀ j, j ≠ 445 + 3 * n → J' j = J j) (hk : ∀ b, b < 60 → bL (J' (445 + 3 * n) 0) b = !decide (f (60 * n + b) = 0)) : XR (mrow S 14 f) I J' := by
  have hb := h.1.b
  have hc := h.1.1
  unfold wC at hc
  refine h.tr (zAg.rows (fun j h1 h2 h3 => mrow_other _ _ (by omega)) rfl rfl rfl _ _) rfl rfl (fun _ _ => rfl) (fun j hj => hJ j (by omega)) hc.2.2.2.2.2.2.2.2.2.1 hc.2.2.2.2.2.2.2.2.2.2.1 (h.1.2.2.1.same rfl rfl rfl) (fun m hm => ?_) (h.2.2.2.2.1.same rfl rfl (fun _ _ _ => rfl)) (fun m hm => ?_)
  · obtain ⟨w1, w2, w3, w4⟩ := h.1.2.2.2.2 m hm
    refine ⟨w1, fun b hb2 => ?_, w3, w4⟩
    rw [show (mrow S 14 f) 14 = f from mrow_self _ _ _]
    rcases hf2 (60 * m + b) with z | z | z
    · rw [z]; exact w2 b hb2
    · exact Or.inl z
    · exact Or.inr z
  · obtain ⟨r1, r2, r3, r4, r5⟩ := h.2.2.2.2.2 m hm
    refine ⟨fun b hb2 => ?_, r2, fun v hv => ?_, r4, r5⟩
    · unfold zKn
      rw [show (mrow S 14 f) 14 = f from mrow_self _ _ _]
      by_cases hmn : m = n
      · subst hmn
        exact hk b hb2
      · rw [hJ _ (by omega), r1 b hb2, hf _ (by omega)]
        rfl
    · rw [r3 v hv]
      exact congrArg oI (zLf_congr (S := S) (T := mrow S 14 f) (zVc S) (fun _ _ => ⟨rfl, rfl, rfl⟩)).symm
