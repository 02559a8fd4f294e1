-- the state at the start is sound, and the class's memory is it
theorem s0_wf {nv ln a : Int32} {n k : Nat} (h3 : 3 ≤ n) (h7 : n ≤ 7) (en : nv = nI n) (h2 : 2 ≤ k) (h5 : k ≤ 5) (ek : ln = nI k) : WF (s0 nv ln a) ∧ zNv (s0 nv ln a) = n ∧ zLn (s0 nv ln a) = k ∧ zBc (s0 nv ln a) = 1 ∧ zVc (s0 nv ln a) = 0 ∧ zPc (s0 nv ln a) = 0 := by
  have z1 : zNv (s0 nv ln a) = n := by show cN nv = n; rw [en]; exact cN_nI (by omega)
  have z2 : zLn (s0 nv ln a) = k := by show cN ln = k; rw [ek]; exact cN_nI (by omega)
  have z3 : zBc (s0 nv ln a) = 1 := rfl
  have z4 : zVc (s0 nv ln a) = 0 := rfl
  have z5 : zPc (s0 nv ln a) = 0 := rfl
  refine ⟨⟨?_, fun b hb => ?_, fun i hi => ?_, fun i hi => ?_, fun m hm => ⟨fun t ht => ?_, fun b hb => ?_, fun i hi => Or.inl rfl, fun i _ hi => rfl⟩⟩, z1, z2, z3, z4, z5⟩
  · unfold wC
    rw [z1, z2, z3, z4, z5]
    exact ⟨en, h3, h7, ek, h2, h5, rfl, by omega, by omega, rfl, by omega, rfl, by omega⟩
  · rw [z3] at hb
    have hb : b = 0 := by omega
    subst hb
    refine ⟨rfl, Nat.zero_le _, rfl, Nat.zero_le _, fun _ => ⟨rfl, rfl, rfl⟩, fun h => by omega, fun i hi => ?_⟩
    have hi : i < 0 := hi
    omega
  · rw [z5] at hi
    omega
  · rw [z4] at hi
    omega
  · refine ⟨rfl, Nat.zero_le _, rfl, ?_⟩
    rw [z3]
    show 0 < 1
    omega
  · show (if 60 * m + b = 0 ∨ 60 * m + b = 60 ∨ 60 * m + b = 120 then (1 : Int32) else 0) = 0 ∨ (if 60 * m + b = 0 ∨ 60 * m + b = 60 ∨ 60 * m + b = 120 then (1 : Int32) else 0) = 1
    by_cases c : 60 * m + b = 0 ∨ 60 * m + b = 60 ∨ 60 * m + b = 120
    · rw [if_pos c]; exact Or.inr rfl
    · rw [if_neg c]; exact Or.inl rfl
theorem bL_1 (c : Nat) : bL 1 c = decide (c = 0) := L_1 c
theorem s0_XR {nv ln a : Int32} {n k : Nat} (h3 : 3 ≤ n) (h7 : n ≤ 7) (en : nv = nI n) (h2 : 2 ≤ k) (h5 : k ≤ 5) (ek : ln = nI k) : XR (s0 nv ln a) (xI0 nv ln a) xJ0 := by
  obtain ⟨hw, z1, z2, z3, z4, z5⟩ := s0_wf (a := a) h3 h7 en h2 h5 ek
  refine ⟨hw, ⟨rfl, rfl, rfl, rfl, rfl, fun v hv => rfl⟩, fun i hi => ?_, fun b hb => ?_, ⟨rfl, fun i hi => ?_⟩, fun m hm => ⟨fun b hb => ?_, fun i hi => ?_, fun v hv => ?_, ?_, ?_⟩⟩
  · rw [z4] at hi
    omega
  · rw [z3] at hb
    have hb : b = 0 := by omega
    subst hb
    refine ⟨rfl, rfl, rfl, fun c hc => ?_, rfl, fun i hi => ?_, ?_⟩
    · show bL 1 c = zD (s0 nv ln a) 0 c
      rw [bL_1]
      unfold zD
      simp only [zDs]
      by_cases e : c = 0
      · subst e; rfl
      · rw [decide_eq_false e, decide_eq_false (fun z => e z.symm)]
    · have hi : i < 0 := hi
      omega
    · rw [gS_0]
      exact ⟨fun v hv => rfl, fun v hv => b_0 v, rfl, rfl, rfl, fun v hv => b_0 v, fun v hv => b_0 v⟩
  · rw [z5] at hi
    omega
  · have e : xJ0 (445 + 3 * m) 0 = 1 := by rw [x0_10 (xk_n hm)]; rfl
    rw [e, bL_1]
    unfold zKn
    show _ = !decide ((if 60 * m + b = 0 ∨ 60 * m + b = 60 ∨ 60 * m + b = 120 then (1 : Int32) else 0) = 0)
    by_cases c : b = 0
    · rw [if_pos (by omega), decide_eq_true c]; rfl
    · rw [if_neg (by omega), decide_eq_false c]; rfl
  · rw [x0_z (by rw [xk_NH (xk_n hm)]; decide) (by rw [xk_NH (xk_n hm)]; decide) (by omega)]
    rfl
  · rw [x0_1 (xk_NL (xk_n hm)) (by omega), if_pos ⟨by omega, by omega⟩, z4]
    rfl
  · rw [x0_z (by rw [xk_n hm]; decide) (by rw [xk_n hm]; decide) (by omega)]
    rfl
  · rw [x0_z (by rw [xk_n hm]; decide) (by rw [xk_n hm]; decide) (by omega)]
    rfl
