-- what stays when a call changes a part
theorem zAg.rf (S : mI) (bc vc : Nat) : zAg S S bc vc := ⟨rfl, rfl, rfl, rfl, fun _ _ => ⟨rfl, rfl, rfl, fun _ _ => rfl⟩, fun _ _ => ⟨rfl, rfl, rfl, rfl, rfl, rfl, rfl⟩⟩
/-- rows 1 to 13 stay, and what counts of row 0 -/
theorem zAg.rows {S T : mI} (h : ∀ j, 1 ≤ j → j ≤ 13 → j ≠ 6 → T j = S j) (h0 : T 0 0 = S 0 0) (h1 : T 0 1 = S 0 1) (h3 : T 0 3 = S 0 3) (bc vc : Nat) : zAg S T bc vc := by
  refine ⟨h0, h1, h3, h 1 (by omega) (by omega) (by omega), fun b _ => ?_, fun i _ => ?_⟩
  · rw [h 2 (by omega) (by omega) (by omega), h 3 (by omega) (by omega) (by omega), h 4 (by omega) (by omega) (by omega), h 5 (by omega) (by omega) (by omega)]
    exact ⟨rfl, rfl, rfl, fun _ _ => rfl⟩
  · rw [h 7 (by omega) (by omega) (by omega), h 8 (by omega) (by omega) (by omega), h 9 (by omega) (by omega) (by omega), h 10 (by omega) (by omega) (by omega), h 11 (by omega) (by omega) (by omega), h 12 (by omega) (by omega) (by omega), h 13 (by omega) (by omega) (by omega)]
    exact ⟨rfl, rfl, rfl, rfl, rfl, rfl, rfl⟩
theorem wIt.tr {S T : mI} {x : Int32} (h : wIt S x) (hv : zVc S ≤ zVc T) : wIt T x := by
  obtain ⟨h1, h2 | ⟨o, t, ho, ht, e⟩⟩ := h
  · exact ⟨h1, Or.inl (by omega)⟩
  · exact ⟨h1, Or.inr ⟨o, t, by omega, by omega, e⟩⟩
theorem bc_of {S T : mI} (h : T 0 4 = S 0 4) : zBc T = zBc S := by unfold zBc; rw [h]
theorem vc_of {S T : mI} (h : T 0 11 = S 0 11) : zVc T = zVc S := by unfold zVc; rw [h]
theorem pc_of {S T : mI} (h : T 0 9 = S 0 9) : zPc T = zPc S := by unfold zPc; rw [h]
theorem WF.tr {S T : mI} (h : WF S) (hag : zAg S T (zBc S) (zVc S)) (hbc : T 0 4 = S 0 4) (hvc : T 0 11 = S 0 11) (hpc : T 0 9 = nI (zPc T)) (hp4 : zPc T ≤ 4) (hP : wP T) (hN : wN T) : WF T := by
  have eb := bc_of hbc
  have ev := vc_of hvc
  have hc := h.1
  have hU := h.up
  have h0 := h.s0
  refine ⟨?_, fun b hb => ?_, hP, fun i hi => ?_, hN⟩
  · unfold wC at hc ⊢
    rw [hag.1, hag.nv, hag.2.1, hag.ln, hbc, eb, hvc, ev]
    exact ⟨hc.1, hc.2.1, hc.2.2.1, hc.2.2.2.1, hc.2.2.2.2.1, hc.2.2.2.2.2.1, hc.2.2.2.2.2.2.1, hc.2.2.2.2.2.2.2.1, hc.2.2.2.2.2.2.2.2.1, hpc, hp4, hc.2.2.2.2.2.2.2.2.2.2.2.1, hc.2.2.2.2.2.2.2.2.2.2.2.2⟩
  · rw [eb] at hb
    have hB := h.2.1 b hb
    have hr := hag.2.2.2.2.1 b hb
    refine ⟨by rw [hr.2.1, hag.sl hb]; exact hB.1, by rw [hag.sl hb]; exact hB.2.1, by rw [hr.2.2.1, hag.ic hb]; exact hB.2.2.1, by rw [hag.ic hb]; exact hB.2.2.2.1, fun hz => ?_, fun hz => ?_, fun i hi => ?_⟩
    · subst hz
      rw [hr.1, hag.sl hb, hag.ic hb]
      exact hB.2.2.2.2.1 rfl
    · have hq := hB.2.2.2.2.2.1 hz
      rw [hr.1, hag.par hb, hag.sl hb, hag.sl (by omega)]
      exact hq
    · rw [hag.ic hb] at hi
      rw [hr.2.2.2 i (by have := hB.2.2.2.1; omega)]
      exact (hB.2.2.2.2.2.2 i hi).tr (by omega)
  · rw [ev] at hi
    have hV := h.2.2.2.1 i hi
    have hr := hag.2.2.2.2.2 i hi
    rw [hr.1, hr.2.1, hr.2.2.1, hr.2.2.2.1, hr.2.2.2.2.1, hr.2.2.2.2.2.1, hr.2.2.2.2.2.2, hag.vr hi, hag.vs hi, hag.vh hi, hag.se hi, hag.sb hi, hag.te hi, hag.tb hi, hag.nv, hag.ln, eb, zAg.s h hag hV.2.2.2.2.2.1, hag.c hU h0 (Nat.le_refl _) hV.2.2.2.2.2.1]
    exact hV
theorem rxV.tr {S T I I' : mI} (h : rxV S I) (hag : zAg S T (zBc S) (zVc S)) (hvc : T 0 11 = S 0 11) (hI : ∀ j, j < 444 → I' j = I j) (hv : zVc S ≤ 80) : rxV T I' := by
  intro i hi
  rw [vc_of hvc] at hi
  have hr := hag.2.2.2.2.2 i hi
  rw [hI _ (by omega), hr.1, hr.2.1, hr.2.2.1, hag.se hi, hag.sb hi, hag.te hi, hag.tb hi]
  exact h i hi
theorem xE.tr {q : sg} {I I' : mI} {j : Nat} (h : xE q I j) (h1 : I' j = I j) (h2 : I' (j + 1) = I (j + 1)) : xE q I' j := by
  unfold xE at h ⊢
  rw [h1, h2]
  exact h
theorem rxB.tr {S T I I' : mI} {J J' : mJ} (hW : WF S) (h : rxB S I J) (hag : zAg S T (zBc S) (zVc S)) (hbc : T 0 4 = S 0 4) (hI : ∀ j, j < 363 → I' j = I j) (hJ : ∀ j, j < 363 → J' j = J j) : rxB T I' J' := by
  have hb60 := hW.b
  intro b hb
  rw [bc_of hbc] at hb
  obtain ⟨h1, h2, h3, h4, h5, h6, h7⟩ := h b hb
  have hr := hag.2.2.2.2.1 b hb
  rw [hI (3 + 6 * b) (by omega), hI (3 + 6 * b + 1) (by omega), hI (3 + 6 * b + 1 + 1) (by omega), hI (3 + 6 * b + 1 + 2) (by omega), hJ (3 + 6 * b) (by omega), hr.1, hr.2.1, hr.2.2.1, hag.sl hb, hag.nv, hag.ic hb, zAg.s hW hag hb]
  refine ⟨h1, h2, h3, fun c hc => ?_, h5, fun i hi => ?_, h7.tr (hI _ (by omega)) (hI _ (by omega))⟩
  · rw [hag.d hW.up (Nat.le_refl _) hb]
    exact h4 c hc
  · rw [hr.2.2.2 i (by have := (hW.2.1 b hb).2.2.2.1; omega)]
    exact h6 i hi
theorem XR.tr {S T I I' : mI} {J J' : mJ} (h : XR S I J) (hag : zAg S T (zBc S) (zVc S)) (hbc : T 0 4 = S 0 4) (hvc : T 0 11 = S 0 11) (hI : ∀ j, j < 444 → I' j = I j) (hJ : ∀ j, j < 444 → J' j = J j) (hpc : T 0 9 = nI (zPc T)) (hp4 : zPc T ≤ 4) (hP : wP T) (hN : wN T) (rP : rxP T I') (rN : rxN T I' J') : XR T I' J' := by
  have hb := h.1.b
  refine ⟨h.1.tr hag hbc hvc hpc hp4 hP hN, ?_, h.2.2.1.tr hag hvc hI (by omega), h.2.2.2.1.tr h.1 hag hbc (fun j hj => hI j (by omega)) (fun j hj => hJ j (by omega)), rP, rN⟩
  have hC := h.2.1
  unfold rxC at hC ⊢
  rw [hI 0 (by omega), hI 1 (by omega), hag.1, hag.2.1, hag.2.2.1, hag.2.2.2.1, hbc, hvc]
  exact hC
/-- the draft may change -/
theorem XR.dr {S I I' : mI} {J J' : mJ} (h : XR S I J) (hI : ∀ j, j < 457 → I' j = I j) (hJ : J' = J) : XR S I' J' := by
  subst hJ
  have hc := h.1.1
  unfold wC at hc
  refine h.tr (zAg.rf S _ _) rfl rfl (fun j hj => hI j (by omega)) (fun _ _ => rfl) hc.2.2.2.2.2.2.2.2.2.1 hc.2.2.2.2.2.2.2.2.2.2.1 h.1.2.2.1 h.1.2.2.2.2 ?_ (fun n hn => ?_)
  · have hp := h.2.2.2.2.1
    unfold rxP at hp ⊢
    rw [hI 454 (by omega), hI (454 + 1) (by omega), hI (454 + 2) (by omega)]
    exact hp
  · have hn2 := h.2.2.2.2.2 n hn
    rw [hI (445 + 3 * n) (by omega), hI (445 + 3 * n + 1) (by omega), hI (445 + 3 * n + 2) (by omega)]
    exact hn2
theorem zLf_congr {S T : mI} {n v : Nat} : ∀ k, (∀ j, j < k → zHr T n j = zHr S n j ∧ zVr T j = zVr S j ∧ zVs T j = zVs S j) → zLf T n v k = zLf S n v k := by
  intro k
  induction k with
  | zero => intro _; rfl
  | succ k ih =>
    intro h
    have hi := ih (fun j hj => h j (by omega))
    obtain ⟨e1, e2, e3⟩ := h k (by omega)
    simp only [zLf]
    rw [hi, e1, e2, e3]
    cases hz : zLf S n v k with
    | none => rfl
    | some b =>
      have hb := ((zLf_all S n v k).1 b hz).1
      have e5 := (h b (by omega)).2.2
      simp only [e5]
