-- a vote is added; a block is added
def rxB1 (S I : mI) (J : mJ) (b : Nat) : Prop := I (3 + 6 * b) 0 = S 2 b ∧ I (3 + 6 * b) 1 = S 3 b ∧ I (3 + 6 * b) 2 = (if b = 0 then 0 else nI (zSl S b % zNv S)) ∧ (∀ c, c < 60 → bL (J (3 + 6 * b) 3) c = zD S b c) ∧ I (3 + 6 * b + 1) 2 = S 4 b ∧ (∀ i, i < zIc S b → encIt (S 5 (4 * b + i)) (I (3 + 6 * b + 1 + 1) i) (I (3 + 6 * b + 1 + 2) i)) ∧ xE (gS S b) I (3 + 6 * b + 4)
theorem rxB1.tr {S T I I' : mI} {J J' : mJ} (hW : WF S) (hag : zAg S T (zBc S) (zVc S)) {b : Nat} (hb : b < zBc S) (h : rxB1 S I J b) (hI : ∀ j, 3 + 6 * b ≤ j → j < 3 + 6 * b + 6 → I' j = I j) (hJ : J' (3 + 6 * b) = J (3 + 6 * b)) : rxB1 T I' J' b := by
  obtain ⟨h1, h2, h3, h4, h5, h6, h7⟩ := h
  have hr := hag.2.2.2.2.1 b hb
  unfold rxB1
  rw [hI (3 + 6 * b) (by omega) (by omega), hI (3 + 6 * b + 1) (by omega) (by omega), hI (3 + 6 * b + 1 + 1) (by omega) (by omega), hI (3 + 6 * b + 1 + 2) (by omega) (by omega), hJ, hr.1, hr.2.1, hr.2.2.1, hag.sl hb, hag.nv, hag.ic hb, zAg.s hW hag hb]
  refine ⟨h1, h2, h3, fun c hc => ?_, h5, fun i hi => ?_, h7.tr (hI _ (by omega) (by omega)) (hI _ (by omega) (by omega))⟩
  · rw [hag.d hW.up (Nat.le_refl _) hb]
    exact h4 c hc
  · rw [hr.2.2.2 i (by have := (hW.2.1 b hb).2.2.2.1; omega)]
    exact h6 i hi
theorem wV1.tr {S T : mI} (hW : WF S) (hag : zAg S T (zBc S) (zVc S)) (hbc : zBc S ≤ zBc T) {i : Nat} (hi : i < zVc S) : T 7 i = nI (zVr T i) ∧ zVr T i < zNv T ∧ T 8 i = nI (zVs T i) ∧ zVs T i ≤ 240 ∧ T 9 i = nI (zVh T i) ∧ zVh T i < zBc T ∧ T 10 i = nI (zSe T i) ∧ zSe T i ≤ 240 ∧ T 11 i = nI (zSb T i) ∧ zSb T i < zBc T ∧ T 12 i = nI (zTe T i) ∧ zTe T i = zVs T i / zLn T ∧ T 13 i = nI (zTb T i) ∧ zTb T i < zBc T ∧ zSe T i = gJe (gS T (zVh T i)) ∧ zSb T i = gJb (gS T (zVh T i)) ∧ zTb T i = zC T (zVh T i) (zTe T i) := by
  have hV := hW.2.2.2.1 i hi
  have hr := hag.2.2.2.2.2 i hi
  rw [hr.1, hr.2.1, hr.2.2.1, hr.2.2.2.1, hr.2.2.2.2.1, hr.2.2.2.2.2.1, hr.2.2.2.2.2.2, hag.vr hi, hag.vs hi, hag.vh hi, hag.se hi, hag.sb hi, hag.te hi, hag.tb hi, hag.nv, hag.ln, zAg.s hW hag hV.2.2.2.2.2.1, hag.c hW.up hW.s0 (Nat.le_refl _) hV.2.2.2.2.2.1]
  obtain ⟨a1, a2, a3, a4, a5, a6, a7, a8, a9, a10, a11, a12, a13, a14, a15⟩ := hV
  exact ⟨a1, a2, a3, a4, a5, by omega, a7, a8, a9, by omega, a11, a12, a13, by omega, a15⟩
theorem wB1.tr {S T : mI} (hW : WF S) (hag : zAg S T (zBc S) (zVc S)) (hvc : zVc S ≤ zVc T) {b : Nat} (hb : b < zBc S) : T 3 b = nI (zSl T b) ∧ zSl T b ≤ 240 ∧ T 4 b = nI (zIc T b) ∧ zIc T b ≤ 4 ∧ (b = 0 → T 2 0 = -1 ∧ zSl T 0 = 0 ∧ zIc T 0 = 0) ∧ (0 < b → T 2 b = nI (zPar T b) ∧ zPar T b < b ∧ zSl T (zPar T b) < zSl T b) ∧ ∀ i, i < zIc T b → wIt T (T 5 (4 * b + i)) := by
  have hB := hW.2.1 b hb
  have hr := hag.2.2.2.2.1 b hb
  refine ⟨by rw [hr.2.1, hag.sl hb]; exact hB.1, by rw [hag.sl hb]; exact hB.2.1, by rw [hr.2.2.1, hag.ic hb]; exact hB.2.2.1, by rw [hag.ic hb]; exact hB.2.2.2.1, fun hz => ?_, fun hz => ?_, fun i hi => ?_⟩
  · subst hz
    rw [hr.1, hag.sl hb, hag.ic hb]
    exact hB.2.2.2.2.1 rfl
  · have hq := hB.2.2.2.2.2.1 hz
    rw [hr.1, hag.par hb, hag.sl hb, hag.sl (by omega)]
    exact hq
  · rw [hag.ic hb] at hi
    rw [hr.2.2.2 i (by have := hB.2.2.2.1; omega)]
    exact (hB.2.2.2.2.2.2 i hi).tr hvc
theorem addV_0 (S : mI) (v h s : Int32) (k : Nat) : zAddV S v h s 0 k = if k = 11 then nI (zVc S + 1) else S 0 k := rfl
theorem addV_7 (S : mI) (v h s : Int32) (i : Nat) : zAddV S v h s 7 i = if i = zVc S then v else S 7 i := rfl
theorem addV_8 (S : mI) (v h s : Int32) (i : Nat) : zAddV S v h s 8 i = if i = zVc S then s else S 8 i := rfl
theorem addV_9 (S : mI) (v h s : Int32) (i : Nat) : zAddV S v h s 9 i = if i = zVc S then h else S 9 i := rfl
theorem addV_10 (S : mI) (v h s : Int32) (i : Nat) : zAddV S v h s 10 i = if i = zVc S then nI (gJe (gS S (cN h))) else S 10 i := rfl
theorem addV_11 (S : mI) (v h s : Int32) (i : Nat) : zAddV S v h s 11 i = if i = zVc S then nI (gJb (gS S (cN h))) else S 11 i := rfl
theorem addV_12 (S : mI) (v h s : Int32) (i : Nat) : zAddV S v h s 12 i = if i = zVc S then nI (cN s / zLn S) else S 12 i := rfl
theorem addV_13 (S : mI) (v h s : Int32) (i : Nat) : zAddV S v h s 13 i = if i = zVc S then nI (zC S (cN h) (cN s / zLn S)) else S 13 i := rfl
theorem addV_row (S : mI) (v h s : Int32) {j : Nat} (h0 : j ≠ 0) (h1 : j < 7 ∨ 13 < j) : zAddV S v h s j = S j := by
  unfold zAddV
  rw [mu_other _ _ _ (by omega), mu_other _ _ _ (by omega), mu_other _ _ _ (by omega), mu_other _ _ _ (by omega), mu_other _ _ _ (by omega), mu_other _ _ _ (by omega), mu_other _ _ _ (by omega), mu_other _ _ _ (by omega)]
theorem addV_ag (S : mI) (v h s : Int32) : zAg S (zAddV S v h s) (zBc S) (zVc S) := by
  refine ⟨rfl, rfl, rfl, rfl, fun b _ => ⟨rfl, rfl, rfl, fun _ _ => rfl⟩, fun i hi => ?_⟩
  rw [addV_7, addV_8, addV_9, addV_10, addV_11, addV_12, addV_13, if_neg (by omega), if_neg (by omega), if_neg (by omega), if_neg (by omega), if_neg (by omega), if_neg (by omega), if_neg (by omega)]
  exact ⟨rfl, rfl, rfl, rfl, rfl, rfl, rfl⟩
theorem addV_wf {S : mI} (hW : WF S) {v h s : Nat} (hk : zVc S < 80) (hv : v < zNv S) (hh : h < zBc S) (hs : s ≤ 240) : WF (zAddV S (nI v) (nI h) (nI s)) := by
  have hb := hW.b
  have hag := addV_ag S (nI v) (nI h) (nI s)
  have ev : zVc (zAddV S (nI v) (nI h) (nI s)) = zVc S + 1 := nI_clamp (by omega)
  have eb : zBc (zAddV S (nI v) (nI h) (nI s)) = zBc S := rfl
  have hc := hW.1
  have hg := hW.g hh
  unfold gW at hg
  have hz := zC_all hW.up hW.s0 (s / zLn S) h h (Nat.le_refl _) hh
  have hd := Nat.div_le_self s (zLn S)
  refine ⟨?_, fun b hb2 => wB1.tr hW hag (by omega) hb2, fun i hi => (hW.2.2.1 i hi).tr (by omega), fun i hi => ?_, fun n hn => ?_⟩
  · unfold wC at hc ⊢
    rw [ev]
    exact ⟨hc.1, hc.2.1, hc.2.2.1, hc.2.2.2.1, hc.2.2.2.2.1, hc.2.2.2.2.2.1, hc.2.2.2.2.2.2.1, hc.2.2.2.2.2.2.2.1, hc.2.2.2.2.2.2.2.2.1, hc.2.2.2.2.2.2.2.2.2.1, hc.2.2.2.2.2.2.2.2.2.2.1, rfl, by omega⟩
  · rw [ev] at hi
    by_cases q : i = zVc S
    · have eh : cN (nI h) = h := cN_nI (by omega)
      have es : cN (nI s) = s := cN_nI (by omega)
      have f7 : zVr (zAddV S (nI v) (nI h) (nI s)) i = v := by unfold zVr; rw [addV_7, if_pos q]; exact cN_nI (by omega)
      have f8 : zVs (zAddV S (nI v) (nI h) (nI s)) i = s := by unfold zVs; rw [addV_8, if_pos q]; exact es
      have f9 : zVh (zAddV S (nI v) (nI h) (nI s)) i = h := by unfold zVh; rw [addV_9, if_pos q]; exact eh
      have f10 : zSe (zAddV S (nI v) (nI h) (nI s)) i = gJe (gS S h) := by unfold zSe; rw [addV_10, if_pos q, eh]; exact cN_nI (by omega)
      have f11 : zSb (zAddV S (nI v) (nI h) (nI s)) i = gJb (gS S h) := by unfold zSb; rw [addV_11, if_pos q, eh]; exact cN_nI (by omega)
      have f12 : zTe (zAddV S (nI v) (nI h) (nI s)) i = s / zLn S := by unfold zTe; rw [addV_12, if_pos q, es]; exact cN_nI (by omega)
      have f13 : zTb (zAddV S (nI v) (nI h) (nI s)) i = zC S h (s / zLn S) := by unfold zTb; rw [addV_13, if_pos q, eh, es]; exact cN_nI (by omega)
      rw [f7, f8, f9, f10, f11, f12, f13, addV_7, addV_8, addV_9, addV_10, addV_11, addV_12, addV_13, if_pos q, if_pos q, if_pos q, if_pos q, if_pos q, if_pos q, if_pos q, eh, es, eb, zAg.s hW hag hh, hag.c hW.up hW.s0 (Nat.le_refl _) hh]
      exact ⟨rfl, hv, rfl, hs, rfl, hh, rfl, hg.2.1, rfl, hg.2.2.1, rfl, rfl, rfl, by omega, rfl, rfl, rfl⟩
    · exact wV1.tr hW hag (by omega) (by omega)
  · obtain ⟨w1, w2, w3, w4⟩ := hW.2.2.2.2 n hn
    exact ⟨w1, w2, w3, fun i hi hi2 => w4 i (by omega) hi2⟩
theorem XR.addV {S I I' : mI} {J : mJ} (hX : XR S I J) {v h s : Nat} (hk : zVc S < 80) (hv : v < zNv S) (hh : h < zBc S) (hs : s ≤ 240) (h1 : ∀ j, j ≠ 0 → j ≠ 364 + zVc S → I' j = I j) (h2 : ∀ k, k ≠ 7 → I' 0 k = I 0 k) (h3 : I' 0 7 = nI (zVc S + 1)) (h4 : I' (364 + zVc S) 0 = nI v) (h5 : I' (364 + zVc S) 1 = nI s) (h6 : I' (364 + zVc S) 2 = nI h) (h7 : I' (364 + zVc S) 3 = nI (64 * gJe (gS S h) + gJb (gS S h))) (h8 : I' (364 + zVc S) 4 = nI (64 * (s / zLn S) + zC S h (s / zLn S))) : XR (zAddV S (nI v) (nI h) (nI s)) I' J := by
  have hb := hX.1.b
  have hag := addV_ag S (nI v) (nI h) (nI s)
  have ev : zVc (zAddV S (nI v) (nI h) (nI s)) = zVc S + 1 := nI_clamp (by omega)
  have hg := hX.1.g hh
  unfold gW at hg
  have hz := zC_all hX.1.up hX.1.s0 (s / zLn S) h h (Nat.le_refl _) hh
  have hd := Nat.div_le_self s (zLn S)
  refine ⟨addV_wf hX.1 hk hv hh hs, ?_, fun i hi => ?_, fun b hb2 => (have hb2 : b < zBc S := hb2; rxB1.tr hX.1 hag hb2 (hX.2.2.2.1 b hb2) (fun j q1 q2 => h1 j (by omega) (by omega)) rfl), hX.2.2.2.2.1.same rfl rfl (fun j q1 q2 => h1 j (by omega) (by omega)), fun n hn => ?_⟩
  · obtain ⟨c1, c2, c3, c4, c5, c6⟩ := hX.2.1
    refine ⟨by rw [h2 0 (by omega)]; exact c1, by rw [h2 1 (by omega)]; exact c2, by rw [h2 3 (by omega)]; exact c3, by rw [h2 5 (by omega)]; exact c4, h3, fun w hw => by rw [h1 1 (by omega) (by omega)]; exact c6 w hw⟩
  · rw [ev] at hi
    by_cases q : i = zVc S
    · have eh : cN (nI h) = h := cN_nI (by omega)
      have es : cN (nI s) = s := cN_nI (by omega)
      have f10 : zSe (zAddV S (nI v) (nI h) (nI s)) i = gJe (gS S h) := by unfold zSe; rw [addV_10, if_pos q, eh]; exact cN_nI (by omega)
      have f11 : zSb (zAddV S (nI v) (nI h) (nI s)) i = gJb (gS S h) := by unfold zSb; rw [addV_11, if_pos q, eh]; exact cN_nI (by omega)
      have f12 : zTe (zAddV S (nI v) (nI h) (nI s)) i = s / zLn S := by unfold zTe; rw [addV_12, if_pos q, es]; exact cN_nI (by omega)
      have f13 : zTb (zAddV S (nI v) (nI h) (nI s)) i = zC S h (s / zLn S) := by unfold zTb; rw [addV_13, if_pos q, eh, es]; exact cN_nI (by omega)
      rw [f10, f11, f12, f13, addV_7, addV_8, addV_9, if_pos q, if_pos q, if_pos q, q]
      exact ⟨h4, h5, h6, h7, h8⟩
    · have hi2 : i < zVc S := by omega
      have hr := hag.2.2.2.2.2 i hi2
      rw [h1 (364 + i) (by omega) (by omega), hr.1, hr.2.1, hr.2.2.1, hag.se hi2, hag.sb hi2, hag.te hi2, hag.tb hi2]
      exact hX.2.2.1 i hi2
  · obtain ⟨r1, r2, r3, r4, r5⟩ := hX.2.2.2.2.2 n hn
    rw [h1 (445 + 3 * n) (by omega) (by omega), h1 (445 + 3 * n + 1) (by omega) (by omega), h1 (445 + 3 * n + 2) (by omega) (by omega)]
    refine ⟨r1, r2, fun w hw => ?_, r4, r5⟩
    rw [r3 w hw, ev]
    have hf : zHr (zAddV S (nI v) (nI h) (nI s)) n (zVc S) = false := by
      have w4 := (hX.1.2.2.2.2 n hn).2.2.2 (zVc S) (Nat.le_refl _) (by omega)
      show zHr S n (zVc S) = false
      exact hr_0.mp w4
    have e1 : zLf (zAddV S (nI v) (nI h) (nI s)) n w (zVc S + 1) = zLf (zAddV S (nI v) (nI h) (nI s)) n w (zVc S) := by
      simp only [zLf]
      rw [if_neg (by rw [hf]; simp)]
    rw [e1]
    refine congrArg oI (zLf_congr (S := S) (T := zAddV S (nI v) (nI h) (nI s)) (zVc S) (fun j hj => ⟨rfl, hag.vr hj, hag.vs hj⟩)).symm
theorem addB_0 (S : mI) (p s : Int32) (k : Nat) : zAddB S p s 0 k = if k = 4 then nI (zBc S + 1) else if k = 9 then 0 else S 0 k := rfl
theorem addB_2 (S : mI) (p s : Int32) (i : Nat) : zAddB S p s 2 i = if i = zBc S then p else S 2 i := rfl
theorem addB_3 (S : mI) (p s : Int32) (i : Nat) : zAddB S p s 3 i = if i = zBc S then s else S 3 i := rfl
theorem addB_4 (S : mI) (p s : Int32) (i : Nat) : zAddB S p s 4 i = if i = zBc S then S 0 9 else S 4 i := rfl
theorem addB_5 (S : mI) (p s : Int32) (i : Nat) : zAddB S p s 5 i = zRow5 S i := rfl
theorem addB_ag (S : mI) (p s : Int32) : zAg S (zAddB S p s) (zBc S) (zVc S) := by
  refine ⟨rfl, rfl, rfl, rfl, fun b hb => ?_, fun i hi => ⟨rfl, rfl, rfl, rfl, rfl, rfl, rfl⟩⟩
  rw [addB_2, addB_3, addB_4, if_neg (by omega), if_neg (by omega), if_neg (by omega)]
  refine ⟨rfl, rfl, rfl, fun i hi => ?_⟩
  rw [addB_5]
  unfold zRow5
  rw [if_neg (by omega)]
theorem addB_wf {S : mI} (hW : WF S) {p s : Nat} (hk : zBc S < 60) (hp : p < zBc S) (hs : s ≤ 240) (hps : zSl S p < s) : WF (zAddB S (nI p) (nI s)) := by
  have hb := hW.b
  have hag := addB_ag S (nI p) (nI s)
  have eb : zBc (zAddB S (nI p) (nI s)) = zBc S + 1 := nI_clamp (by omega)
  have ep : zPc (zAddB S (nI p) (nI s)) = 0 := rfl
  have evc : zVc (zAddB S (nI p) (nI s)) = zVc S := rfl
  have hc := hW.1
  refine ⟨?_, fun b hb2 => ?_, fun i hi => by rw [ep] at hi; omega, fun i hi => wV1.tr hW hag (by omega) hi, fun n hn => ?_⟩
  · unfold wC at hc ⊢
    rw [eb, ep]
    exact ⟨hc.1, hc.2.1, hc.2.2.1, hc.2.2.2.1, hc.2.2.2.2.1, hc.2.2.2.2.2.1, rfl, by omega, by omega, rfl, by omega, hc.2.2.2.2.2.2.2.2.2.2.2.1, hc.2.2.2.2.2.2.2.2.2.2.2.2⟩
  · rw [eb] at hb2
    by_cases q : b = zBc S
    · have e9 : S 0 9 = nI (zPc S) := hc.2.2.2.2.2.2.2.2.2.1
      have f2 : zPar (zAddB S (nI p) (nI s)) b = p := by unfold zPar; rw [addB_2, if_pos q]; exact cN_nI (by omega)
      have f3 : zSl (zAddB S (nI p) (nI s)) b = s := by unfold zSl; rw [addB_3, if_pos q]; exact cN_nI (by omega)
      have f4 : zIc (zAddB S (nI p) (nI s)) b = zPc S := by unfold zIc; rw [addB_4, if_pos q, e9]; exact cN_nI (by omega)
      rw [f2, f3, f4, addB_2 S (nI p) (nI s) b, addB_3 S (nI p) (nI s) b, addB_4 S (nI p) (nI s) b, if_pos q, if_pos q, if_pos q, hag.sl hp]
      refine ⟨rfl, hs, e9, by omega, fun z => by omega, fun _ => ⟨rfl, by omega, hps⟩, fun i hi => ?_⟩
      rw [addB_5]
      unfold zRow5
      rw [if_pos ⟨by omega, by omega⟩, show 4 * b + i - 4 * zBc S = i from by omega]
      exact (hW.2.2.1 i hi).tr (by omega)
    · exact wB1.tr hW hag (by omega) (by omega)
  · obtain ⟨w1, w2, w3, w4⟩ := hW.2.2.2.2 n hn
    refine ⟨fun k hk => ?_, w2, w3, w4⟩
    obtain ⟨a1, a2, a3, a4⟩ := w1 k hk
    refine ⟨a1, a2, a3, ?_⟩
    rw [eb]
    show zNb S (2 * n + k) < zBc S + 1
    omega
theorem addB_gS {S : mI} (hW : WF S) {p s : Nat} (hk : zBc S < 60) (hp : p < zBc S) (hs : s ≤ 240) (hps : zSl S p < s) : gS (zAddB S (nI p) (nI s)) (zBc S) = gPre S p s (zPc S) := by
  have hb := hW.b
  have hW2 := addB_wf hW hk hp hs hps
  have hag := addB_ag S (nI p) (nI s)
  have eb : zBc (zAddB S (nI p) (nI s)) = zBc S + 1 := nI_clamp (by omega)
  have e9 : S 0 9 = nI (zPc S) := hW.1.2.2.2.2.2.2.2.2.2.1
  have f2 : zPar (zAddB S (nI p) (nI s)) (zBc S) = p := by unfold zPar; rw [addB_2, if_pos rfl]; exact cN_nI (by omega)
  have f3 : zSl (zAddB S (nI p) (nI s)) (zBc S) = s := by unfold zSl; rw [addB_3, if_pos rfl]; exact cN_nI (by omega)
  have f4 : zIc (zAddB S (nI p) (nI s)) (zBc S) = zPc S := by unfold zIc; rw [addB_4, if_pos rfl, e9]; exact cN_nI (by omega)
  rw [gS_eq hW2.up (by rw [eb]; omega) (by omega), f2, f3, f4, hag.nv, hag.ln, zAg.s hW hag hp]
  unfold gPre
  refine hag.fold hW.up hW.s0 (Nat.le_refl _) hp s _ (zPc S) (fun i hi => ⟨?_, (hW.2.2.1 i hi).v (by omega)⟩)
  unfold zIt zNi
  rw [addB_5]
  unfold zRow5
  rw [if_pos ⟨by omega, by omega⟩, show 4 * zBc S + i - 4 * zBc S = i from by omega]
theorem XR.addB {S I I' : mI} {J J' : mJ} (hX : XR S I J) {p s : Nat} (hk : zBc S < 60) (hp : p < zBc S) (hs : s ≤ 240) (hps : zSl S p < s)
    (h1 : ∀ j, j ≠ 0 → j ≠ 454 → (j < 3 + 6 * zBc S ∨ 3 + 6 * zBc S + 6 ≤ j) → I' j = I j) (h2 : ∀ k, k ≠ 5 → I' 0 k = I 0 k) (h3 : I' 0 5 = nI (zBc S + 1)) (h4 : I' 454 2 = 0) (h5 : I' (3 + 6 * zBc S) 0 = nI p) (h6 : I' (3 + 6 * zBc S) 1 = nI s) (h7 : I' (3 + 6 * zBc S) 2 = nI (s % zNv S)) (hJ : ∀ j, j ≠ 3 + 6 * zBc S → J' j = J j) (h8 : J' (3 + 6 * zBc S) 3 = J (3 + 6 * p) 3 ||| ((1 : Int64) <<< ((nI (zBc S)).toInt64 &&& 63)))
    (h9 : I' (3 + 6 * zBc S + 1) 2 = I 454 2) (h10 : ∀ i, i < 4 → I' (3 + 6 * zBc S + 1 + 1) i = I (454 + 1) i ∧ I' (3 + 6 * zBc S + 1 + 2) i = I (454 + 2) i) (h11 : xE (gPre S p s (zPc S)) I' (3 + 6 * zBc S + 4)) : XR (zAddB S (nI p) (nI s)) I' J' := by
  have hb := hX.1.b
  have hW2 := addB_wf hX.1 hk hp hs hps
  have hag := addB_ag S (nI p) (nI s)
  have eb : zBc (zAddB S (nI p) (nI s)) = zBc S + 1 := nI_clamp (by omega)
  have e9 : S 0 9 = nI (zPc S) := hX.1.1.2.2.2.2.2.2.2.2.2.1
  refine ⟨hW2, ?_, fun i hi => ?_, fun b hb2 => ?_, ⟨h4, fun i hi => ?_⟩, hX.2.2.2.2.2.same rfl rfl rfl rfl rfl rfl rfl (fun j q1 q2 => h1 j (by omega) (by omega) (by omega)) (fun j q1 q2 => hJ j (by omega))⟩
  · obtain ⟨c1, c2, c3, c4, c5, c6⟩ := hX.2.1
    exact ⟨by rw [h2 0 (by omega)]; exact c1, by rw [h2 1 (by omega)]; exact c2, by rw [h2 3 (by omega)]; exact c3, h3, by rw [h2 7 (by omega)]; exact c5, fun w hw => by rw [h1 1 (by omega) (by omega) (by omega)]; exact c6 w hw⟩
  · have hi2 : i < zVc S := hi
    rw [h1 (364 + i) (by omega) (by omega) (by omega)]
    exact hX.2.2.1 i hi2
  · rw [eb] at hb2
    by_cases q : b = zBc S
    · subst q
      have f3 : zSl (zAddB S (nI p) (nI s)) (zBc S) = s := by unfold zSl; rw [addB_3, if_pos rfl]; exact cN_nI (by omega)
      have f4 : zIc (zAddB S (nI p) (nI s)) (zBc S) = zPc S := by unfold zIc; rw [addB_4, if_pos rfl, e9]; exact cN_nI (by omega)
      have f2 : zPar (zAddB S (nI p) (nI s)) (zBc S) = p := by unfold zPar; rw [addB_2, if_pos rfl]; exact cN_nI (by omega)
      show rxB1 _ _ _ _
      unfold rxB1
      rw [addB_gS hX.1 hk hp hs hps, f3, f4, addB_2, addB_3, addB_4, if_pos rfl, if_pos rfl, if_pos rfl, if_neg (by omega), hag.nv]
      refine ⟨h5, h6, h7, fun c hc => ?_, by rw [h9]; exact hX.2.2.2.2.1.1, fun i hi => ?_, h11⟩
      · rw [h8, L_set _ (by omega) (by omega), hX.ch hp hc, zD_eq hW2.up (by rw [eb]; omega), f2]
        by_cases q1 : zBc S ≤ c
        · rw [if_pos q1]
          have : zD S p c = false := zD_lt hX.1.up hp (by omega)
          rw [this, Bool.false_or]
        · rw [if_neg q1, decide_eq_false (by omega), Bool.or_false, hag.d hX.1.up (Nat.le_refl _) hp]
      · rw [(h10 i (by omega)).1, (h10 i (by omega)).2, addB_5]
        unfold zRow5
        rw [if_pos ⟨by omega, by omega⟩, show 4 * zBc S + i - 4 * zBc S = i from by omega]
        exact hX.2.2.2.2.1.2 i hi
    · exact rxB1.tr hX.1 hag (by omega) (hX.2.2.2.1 b (by omega)) (fun j q1 q2 => h1 j (by omega) (by omega) (by omega)) (hJ _ (by omega))
  · have ep : zPc (zAddB S (nI p) (nI s)) = 0 := rfl
    rw [ep] at hi
    omega
