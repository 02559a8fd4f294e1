def qM_vote (S _I : mI) (_ : mJ) (a b c : Int32) (r : Int32) (I' : mI) (_ : mJ) : Prop := r = (oVote S a b c).1 ∧ RY (oVote S a b c).2 I'
def qM_propose (S _I : mI) (_ : mJ) (a b : Int32) (r : Int32) (I' : mI) (_ : mJ) : Prop := r = (oPro S a b).1 ∧ RY (oPro S a b).2 I'
def qM_give (S _I : mI) (_ : mJ) (a b : Int32) (r : Int32) (I' : mI) (_ : mJ) : Prop := r = (oGiv S a b).1 ∧ RY (oGiv S a b).2 I'
def pM_hearAll (S I : mI) (_ : mJ) (n b : Int32) : Prop := YR S I ∧ (∃ k, k < 3 ∧ n = nI k) ∧ iB S b
def qM_hearAll (S _I : mI) (_ : mJ) (n b : Int32) (I' : mI) (_ : mJ) : Prop := RY (zItems S (cN n) (cN b) (zIc S (cN b))) I'
theorem mu_mrow (S : mI) (j k : Nat) (x : Int32) : mu S j k x = mrow S j (upd (S j) k x) := by
  funext a
  by_cases h : a = j
  · subst h
    rw [mu_self, mrow_self]
  · rw [mu_other _ _ _ h, mrow_other _ _ h]
theorem WF.setk {S : mI} (h : WF S) {f : Nat → Int32} (hf : ∀ q, f q = S 14 q ∨ f q = 0 ∨ f q = 1) : WF (mrow S 14 f) := by
  have hc := h.1
  unfold wC at hc
  refine h.tr (zAg.rows (fun j h1 h2 h3 => mrow_other _ _ (by omega)) rfl rfl rfl _ _) rfl rfl hc.2.2.2.2.2.2.2.2.2.1 hc.2.2.2.2.2.2.2.2.2.2.1 (h.2.2.1.same rfl rfl rfl) (fun m hm => ?_)
  obtain ⟨w1, w2, w3, w4⟩ := h.2.2.2.2 m hm
  refine ⟨w1, fun b hb2 => ?_, w3, w4⟩
  rw [show (mrow S 14 f) 14 = f from mrow_self _ _ _]
  rcases hf (60 * m + b) with z | z | z
  · rw [z]; exact w2 b hb2
  · exact Or.inl z
  · exact Or.inr z
theorem WF.kno {S : mI} (h : WF S) (q : Nat) : WF (mu S 14 q 1) := by
  rw [mu_mrow]
  refine h.setk (fun k => ?_)
  unfold upd
  by_cases e : k = q
  · rw [if_pos e]; exact Or.inr (Or.inr rfl)
  · rw [if_neg e]; exact Or.inl rfl
theorem WF.hear {S : mI} (h : WF S) {n i : Nat} (hi : i < zVc S) : WF (zHear S n i) := by
  have hb := h.b
  have hc := h.1
  unfold wC at hc
  refine h.tr (zAg.rows (fun j h1 h2 h3 => mu_other _ _ _ (by omega)) rfl rfl rfl _ _) rfl rfl hc.2.2.2.2.2.2.2.2.2.1 hc.2.2.2.2.2.2.2.2.2.2.1 (h.2.2.1.same rfl rfl rfl) (fun m hm => ?_)
  obtain ⟨w1, w2, w3, w4⟩ := h.2.2.2.2 m hm
  refine ⟨w1, w2, fun j hj => ?_, fun j hj hj2 => ?_⟩
  · unfold zHear
    rw [mu_at]
    by_cases q : 15 = 15 ∧ 80 * m + j = 80 * n + i
    · rw [if_pos q]; exact Or.inr rfl
    · rw [if_neg q]; exact w3 j hj
  · have hj : zVc S ≤ j := hj
    unfold zHear
    rw [mu_at, if_neg (fun q => by omega)]
    exact w4 j hj hj2
theorem WF.item {S : mI} (h : WF S) {n : Nat} {x : Int32} (hx : wIt S x) : WF (zItem S n (cN x)) := by
  have hb := h.b
  unfold zItem
  rcases hx.2 with z | ⟨o, t, ho, ht, e⟩
  · rw [if_pos (by omega)]; exact h.hear z
  · rw [if_neg (by omega), show cN x % 100 = o from by omega, show cN x / 100 - 1 = t from by omega]
    exact (h.hear ho).hear (i := t) ht
theorem zItem_0 (S : mI) (n x : Nat) : zItem S n x 0 = S 0 := zItem_row S n x (by omega)
theorem WF.items' {S : mI} (h : WF S) {n b : Nat} (hb : b < zBc S) : ∀ k, k ≤ zIc S b → WF (zItems S n b k) := by
  intro k
  induction k with
  | zero => intro _; exact h
  | succ k ih =>
    intro hk
    simp only [zItems]
    refine (ih (by omega)).item (x := S 5 (4 * b + k)) ?_
    exact ((h.2.1 b hb).2.2.2.2.2.2 k (by omega)).tr (by rw [vc_of (congrFun (zItems_row S n b k (j := 0) (by omega)) 11)]; exact Nat.le_refl _)
theorem WF.setn {S : mI} (h : WF S) {n k e b : Nat} (hk : k < 2) (he : e ≤ 240) (hb0 : b < zBc S) : WF (mu (mu S 16 (2 * n + k) (nI e)) 17 (2 * n + k) (nI b)) := by
  have hb := h.b
  have hc := h.1
  unfold wC at hc
  refine h.tr (zAg.rows (fun j h1 h2 h3 => by rw [mu_other _ _ _ (by omega), mu_other _ _ _ (by omega)]) rfl rfl rfl _ _) rfl rfl hc.2.2.2.2.2.2.2.2.2.1 hc.2.2.2.2.2.2.2.2.2.2.1 (h.2.2.1.same rfl rfl rfl) (fun m hm => ?_)
  obtain ⟨w1, w2, w3, w4⟩ := h.2.2.2.2 m hm
  refine ⟨fun k' hk' => ?_, w2, w3, w4⟩
  have hw := w1 k' hk'
  unfold zNe zNb at hw ⊢
  rw [mu_other _ _ _ (show (16 : Nat) ≠ 17 by omega), mu_at, mu_at]
  by_cases q : 2 * m + k' = 2 * n + k
  · rw [if_pos ⟨rfl, q⟩, if_pos ⟨rfl, q⟩, cN_nI (by omega), cN_nI (by omega)]
    exact ⟨rfl, he, rfl, hb0⟩
  · rw [if_neg (fun z => q z.2), if_neg (fun z => q z.2), mu_other _ _ _ (show (17 : Nat) ≠ 16 by omega)]
    exact hw
theorem zFk_s {U : mI} {n r k : Nat} {v : Int32} (hv : v = if zD U k r = false then 0 else U 14 (60 * n + k)) : zFk U n r (k + 1) = mu (zFk U n r k) 14 (60 * n + k) v := by
  funext j
  by_cases h : j = 14
  · subst h
    rw [mu_self]
    unfold zFk
    rw [mrow_self, mrow_self]
    funext q
    unfold upd
    by_cases e : q = 60 * n + k
    · rw [if_pos e, hv, e, show 60 * n + k - 60 * n = k from by omega]
      by_cases c : zD U k r = false
      · rw [if_pos c, if_pos ⟨by omega, by omega, c⟩]
      · rw [if_neg c, if_neg (fun z => c z.2.2)]
    · rw [if_neg e]
      show _ = if 60 * n ≤ q ∧ q < 60 * n + k ∧ zD U (q - 60 * n) r = false then 0 else U 14 q
      by_cases c : 60 * n ≤ q ∧ q < 60 * n + k ∧ zD U (q - 60 * n) r = false
      · rw [if_pos c, if_pos ⟨c.1, by omega, c.2.2⟩]
      · rw [if_neg c, if_neg (fun z => c ⟨z.1, by omega, z.2.2⟩)]
  · rw [mu_other _ _ _ h, zFk_row _ _ _ _ h, zFk_row _ _ _ _ h]
theorem WF.fk {U : mI} (h : WF U) (n r k : Nat) : WF (zFk U n r k) := by
  unfold zFk
  refine h.setk (fun q => ?_)
  by_cases c : 60 * n ≤ q ∧ q < 60 * n + k ∧ zD U (q - 60 * n) r = false
  · exact Or.inr (Or.inl (if_pos c))
  · exact Or.inl (if_neg c)
def zR5 (S : mI) (k : Nat) : Nat → Int32 := fun q => if 4 * zBc S ≤ q ∧ q < 4 * zBc S + k then S 6 (q - 4 * zBc S) else S 5 q
theorem zR5_0 (S : mI) : mrow S 5 (zR5 S 0) = S := by
  funext j
  by_cases h : j = 5
  · subst h
    rw [mrow_self]
    funext q
    unfold zR5
    rw [if_neg (fun z => by omega)]
  · exact mrow_other _ _ h
theorem zR5_s (S : mI) (k : Nat) : mrow S 5 (zR5 S (k + 1)) = mu (mrow S 5 (zR5 S k)) 5 (4 * zBc S + k) (S 6 k) := by
  funext j
  by_cases h : j = 5
  · subst h
    rw [mu_self, mrow_self, mrow_self]
    funext q
    unfold upd zR5
    by_cases e : q = 4 * zBc S + k
    · rw [if_pos e, if_pos ⟨by omega, by omega⟩, e, show 4 * zBc S + k - 4 * zBc S = k from by omega]
    · rw [if_neg e]
      by_cases c : 4 * zBc S ≤ q ∧ q < 4 * zBc S + k
      · rw [if_pos c, if_pos ⟨c.1, by omega⟩]
      · rw [if_neg c, if_neg (fun z => c ⟨z.1, by omega⟩)]
  · rw [mu_other _ _ _ h, mrow_other _ _ h, mrow_other _ _ h]

def wp_M_vote_76 (K76 : mI → mJ → Int32 → Int32 → Int32 → Prop) (R : Int32 → mI → mJ → Prop) (I : mI) (J : mJ) (a1 : Int32) (a2 : Int32) (a3 : Int32) (x4 : Int32) (x5 : Int32) (x6 : Int32) : Prop :=
  (((I 0 11) ≤ x6 → ((¬ ((I 0 11) = 80) → (vp_in (I 0 11) 80 ∧ (∀ (I14 : mI), I14 = mu I 7 (I 0 11).toNatClampNeg a1 → (vp_in (I14 0 11) 80 ∧ (∀ (I16 : mI), I16 = mu I14 8 (I14 0 11).toNatClampNeg a3 → (vp_in (I16 0 11) 80 ∧ (∀ (I18 : mI), I18 = mu I16 9 (I16 0 11).toNatClampNeg a2 → (vp_in (I18 0 11) 80 ∧ (∀ (I20 : mI), I20 = mu I18 10 (I18 0 11).toNatClampNeg (I18 0 28) → (vp_in (I20 0 11) 80 ∧ (∀ (I22 : mI), I22 = mu I20 11 (I20 0 11).toNatClampNeg (I20 0 29) → (vp_in (I22 0 11) 80 ∧ (∀ (I24 : mI), I24 = mu I22 12 (I22 0 11).toNatClampNeg x4 → (vp_in (I24 0 11) 80 ∧ (∀ (I26 : mI), I26 = mu I24 13 (I24 0 11).toNatClampNeg x5 → (∀ (I27 : mI), I27 = mu I26 0 11 ((I26 0 11) + 1) → R ((I27 0 11) - 1) I27 J)))))))))))))))) ∧ ((I 0 11) = 80 → R (-2) I J))) ∧ (¬ ((I 0 11) ≤ x6) → (vp_in x6 80 ∧ ((¬ ((I 7 x6.toNatClampNeg) = a1) → K76 I J x4 x5 (x6 + 1)) ∧ ((I 7 x6.toNatClampNeg) = a1 → (vp_in x6 80 ∧ ((¬ ((I 8 x6.toNatClampNeg) = a3) → K76 I J x4 x5 (x6 + 1)) ∧ ((I 8 x6.toNatClampNeg) = a3 → (vp_in x6 80 ∧ ((¬ ((I 9 x6.toNatClampNeg) = a2) → K76 I J x4 x5 (x6 + 1)) ∧ ((I 9 x6.toNatClampNeg) = a2 → (vp_in x6 80 ∧ ((¬ ((I 10 x6.toNatClampNeg) = (I 0 28)) → K76 I J x4 x5 (x6 + 1)) ∧ ((I 10 x6.toNatClampNeg) = (I 0 28) → (vp_in x6 80 ∧ ((¬ ((I 11 x6.toNatClampNeg) = (I 0 29)) → K76 I J x4 x5 (x6 + 1)) ∧ ((I 11 x6.toNatClampNeg) = (I 0 29) → (vp_in x6 80 ∧ ((¬ ((I 13 x6.toNatClampNeg) = x5) → K76 I J x4 x5 (x6 + 1)) ∧ ((I 13 x6.toNatClampNeg) = x5 → R x6 I J))))))))))))))))))))
def wp_M_vote (K76 : mI → mJ → Int32 → Int32 → Int32 → Prop) (R : Int32 → mI → mJ → Prop) (I0 : mI) (J0 : mJ) (a1 : Int32) (a2 : Int32) (a3 : Int32) : Prop :=
  (((fM_isValidator I0 J0 a1) = 0 → R (-1) I0 J0) ∧ (¬ ((fM_isValidator I0 J0 a1) = 0) → (((fM_isBlock I0 J0 a2) = 0 → R (-1) I0 J0) ∧ (¬ ((fM_isBlock I0 J0 a2) = 0) → (((fM_outside I0 J0 a3 0 240) = 0 → (∃ (S4 : mI), (pM_make S4 I0 J0 a2 ∧ (∀ (I7 : mI) (J8 : mJ), qM_make S4 I0 J0 a2 I7 J8 → (¬ (I7 0 1) = 0 ∧ (vp_in a2 60 ∧ ((a3 < (I7 3 a2.toNatClampNeg) → R (-3) I7 J8) ∧ (¬ (a3 < (I7 3 a2.toNatClampNeg)) → (((I7 0 28) < (a3 / (I7 0 1)) → (∃ (S11 : mI), (pM_checkpointBlock S11 I7 J8 a2 (a3 / (I7 0 1)) ∧ K76 I7 J8 (a3 / (I7 0 1)) (fM_checkpointBlock S11 I7 J8 a2 (a3 / (I7 0 1))) 0))) ∧ (¬ ((I7 0 28) < (a3 / (I7 0 1))) → R (-3) I7 J8)))))))))) ∧ (¬ ((fM_outside I0 J0 a3 0 240) = 0) → R (-1) I0 J0))))))
theorem P_M_vote (S : mI) (I0 : mI) (J0 : mJ) (a1 : Int32) (a2 : Int32) (a3 : Int32)  (hp : pY3 S I0 J0 a1 a2 a3) (K76 : mI → mJ → Int32 → Int32 → Int32 → Prop) (R : Int32 → mI → mJ → Prop) (c76 : ∀ (I : mI) (J : mJ) (x4 : Int32) (x5 : Int32) (x6 : Int32), wp_M_vote_76 K76 R I J a1 a2 a3 x4 x5 x6 → K76 I J x4 x5 x6) (hR : ∀ (r : Int32) (I' : mI) (J' : mJ), qM_vote S I0 J0 a1 a2 a3 r I' J' → R r I' J') : wp_M_vote K76 R I0 J0 a1 a2 a3 := by
  have hY : YR S I0 := hp
  have hb := hY.1.b
  unfold qM_vote at hR
  have bad : (¬ iVd S a1 ∨ ¬ iBl S a2 ∨ a3 < 0 ∨ 240 < a3) → R (-1) I0 J0 := fun z => hR _ _ _ (by unfold oVote; rw [if_pos z]; exact ⟨rfl, hY.2⟩)
  unfold wp_M_vote
  refine ⟨fun h => bad (Or.inl (hY.isD.mp h)), fun h => ⟨fun h2 => bad (Or.inr (Or.inl (hY.isB.mp h2))), fun h2 => ⟨fun h3 => ?_, fun h3 => bad (Or.inr (Or.inr (nn (fun q => h3 (out_0.mpr q)))))⟩⟩⟩
  have g1 : iVd S a1 := nn (fun q => h (hY.isD.mpr q))
  have g2 : iBl S a2 := nn (fun q => h2 (hY.isB.mpr q))
  have g3 := out_0.mp h3
  have nb : ¬ (¬ iVd S a1 ∨ ¬ iBl S a2 ∨ a3 < 0 ∨ 240 < a3) := fun q => q.elim (fun z => z g1) (fun q => q.elim (fun z => z g2) g3)
  obtain ⟨v, hv, rfl⟩ := hY.1.iD g1
  obtain ⟨b, hb0, rfl⟩ := hY.1.iB g2
  obtain ⟨s, hs, rfl⟩ := nI_of2 (n := 240) (M := 240) rfl (fun q => g3 (Or.inl q)) (Int32.not_lt.mp (fun q => g3 (Or.inr q)))
  unfold oVote at hR
  rw [if_neg nb, cN_nI (n := b) (by omega), cN_nI (n := s) (by omega)] at hR
  refine ⟨S, ⟨hY, ⟨b, hb0, rfl⟩⟩, fun I7 J8 hq => ?_⟩
  obtain ⟨-, hg, hE⟩ := hq
  rw [cN_nI (by omega)] at hE
  have hY7 := hY.g hg
  have hsl := hY.1.sl hb0
  have hgw := hY.1.g hb0
  unfold gW at hgw
  have hd := Nat.div_le_self s (zLn S)
  rw [hY7.ln, ic (n := b) (by omega), hY7.r (j := 3) (by omega) (by omega), (hY.1.2.1 b hb0).1, hE.2.2.1, pk_div (by omega) (by omega) (by omega), nI_ltI (a := s) (by omega) (by omega), nI_ltI (a := gJe (gS S b)) (by omega) (by omega)]
  refine ⟨nI_ne0 (by omega) (by omega), iin (by omega) (by omega), fun h4 => hR _ _ _ (by rw [if_pos (Or.inl h4)]; exact ⟨rfl, hY7.2⟩), fun h4 => ⟨fun h5 => ⟨S, ⟨hY7, ⟨b, hb0, rfl⟩, ⟨s / zLn S, by omega, rfl⟩⟩, ?_⟩, fun h5 => hR _ _ _ (by rw [if_pos (Or.inr (by omega))]; exact ⟨rfl, hY7.2⟩)⟩⟩
  unfold fM_checkpointBlock
  rw [cN_nI (n := b) (by omega), cN_nI (n := s / zLn S) (by omega)]
  rw [if_neg (fun q => q.elim (fun z => h4 z) (fun z => by omega))] at hR
  generalize hpe : (fun i => decide (S 7 i = nI v ∧ S 8 i = nI s ∧ S 9 i = nI b)) = pp at hR
  have key : ∀ m i, i + m = zVc S → zFst pp (zVc S) 0 = zFst pp m i → K76 I7 J8 (nI (s / zLn S)) (nI (zC S b (s / zLn S))) (nI i) := by
    intro m
    induction m with
    | zero =>
      intro i hi he
      have hi : i = zVc S := by omega
      subst hi
      have he : zFst pp (zVc S) 0 = none := he
      rw [he] at hR
      apply c76
      unfold wp_M_vote_76
      rw [hY7.vc, show (80 : Int32) = nI 80 from rfl, nI_eq (b := 80) (by omega) (by omega), ic (n := zVc S) (by omega)]
      refine ⟨fun _ => ⟨fun hn => ⟨iin (by omega) (by omega), fun I14 e14 => ?_⟩, fun hn => hR _ _ _ ?_⟩, fun z => absurd (nI_le (Nat.le_refl _) (by omega)) z⟩
      · have hin : vp_in (nI (zVc S)) 80 := iin (by omega) (by omega)
        have q14 : I14 0 = I7 0 := by rw [e14]; exact mu_other _ _ _ (by omega)
        rw [q14, hY7.vc, ic (n := zVc S) (by omega)]
        refine ⟨hin, fun I16 e16 => ?_⟩
        have q16 : I16 0 = I7 0 := by rw [e16, mu_other _ _ _ (by omega), q14]
        rw [q16, hY7.vc, ic (n := zVc S) (by omega)]
        refine ⟨hin, fun I18 e18 => ?_⟩
        have q18 : I18 0 = I7 0 := by rw [e18, mu_other _ _ _ (by omega), q16]
        rw [q18, hY7.vc, ic (n := zVc S) (by omega), hE.2.2.1]
        refine ⟨hin, fun I20 e20 => ?_⟩
        have q20 : I20 0 = I7 0 := by rw [e20, mu_other _ _ _ (by omega), q18]
        rw [q20, hY7.vc, ic (n := zVc S) (by omega), hE.2.2.2.1]
        refine ⟨hin, fun I22 e22 => ?_⟩
        have q22 : I22 0 = I7 0 := by rw [e22, mu_other _ _ _ (by omega), q20]
        rw [q22, hY7.vc, ic (n := zVc S) (by omega)]
        refine ⟨hin, fun I24 e24 => ?_⟩
        have q24 : I24 0 = I7 0 := by rw [e24, mu_other _ _ _ (by omega), q22]
        rw [q24, hY7.vc, ic (n := zVc S) (by omega)]
        refine ⟨hin, fun I26 e26 => ?_⟩
        have q26 : I26 0 = I7 0 := by rw [e26, mu_other _ _ _ (by omega), q24]
        rw [q26, hY7.vc, nI_1]
        intro I27 e27
        have q27 : I27 0 11 = nI (zVc S + 1) := by rw [e27, mu_at, if_pos ⟨rfl, rfl⟩]
        rw [q27, nI_pred]
        refine hR _ _ _ ⟨by rw [if_neg hn], ?_⟩
        rw [if_neg hn, e27, e26, e24, e22, e20, e18, e16, e14]
        show RY (zAddV S (nI v) (nI b) (nI s)) _
        unfold zAddV
        rw [cN_nI (n := b) (by omega), cN_nI (n := s) (by omega)]
        exact (((((((hY7.2.mu _ _ _).mu _ _ _).mu _ _ _).mu _ _ _).mu _ _ _).mu _ _ _).mu _ _ _).mu _ _ _
      · rw [if_pos hn]
        exact ⟨rfl, hY7.2⟩
    | succ m ih =>
      intro i hi he
      have hii : i < zVc S := by omega
      obtain ⟨w1, w2, w3, w4, w5, w6, w7, w8, w9, w10, w11, w12, w13, w14, w15, w16, w17⟩ := hY.1.2.2.2.1 i hii
      have hpp : pp i = decide (S 7 i = nI v ∧ S 8 i = nI s ∧ S 9 i = nI b) := by rw [← hpe]
      have no : ¬ (S 7 i = nI v ∧ S 8 i = nI s ∧ S 9 i = nI b) → K76 I7 J8 (nI (s / zLn S)) (nI (zC S b (s / zLn S))) (nI (i + 1)) := fun z => ih (i + 1) (by omega) (by rw [he, fst_f (by rw [hpp]; exact decide_eq_false z)])
      apply c76
      unfold wp_M_vote_76
      rw [hY7.vc, nI_1 i, ic (n := i) (by omega), hY7.r (j := 7) (by omega) (by omega), hY7.r (j := 8) (by omega) (by omega), hY7.r (j := 9) (by omega) (by omega), hY7.r (j := 10) (by omega) (by omega), hY7.r (j := 11) (by omega) (by omega), hY7.r (j := 13) (by omega) (by omega), hE.2.2.1, hE.2.2.2.1]
      have hin : vp_in (nI i) 80 := iin (by omega) (by omega)
      refine ⟨fun z => absurd z (nI_ge (by omega) (by omega)), fun _ => ⟨hin, fun z => no (fun y => z y.1), fun y1 => ⟨hin, fun z => no (fun y => z y.2.1), fun y2 => ⟨hin, fun z => no (fun y => z y.2.2), fun y3 => ?_⟩⟩⟩⟩
      have eh : zVh S i = b := by rw [w5] at y3; exact (nI_eq (by omega) (by omega)).mp y3
      have es : zVs S i = s := by rw [w3] at y2; exact (nI_eq (by omega) (by omega)).mp y2
      rw [eh] at w15 w16 w17
      rw [w12, es] at w17
      refine ⟨hin, fun z => absurd (by rw [w7, w15]) z, fun _ => ⟨hin, fun z => absurd (by rw [w9, w16]) z, fun _ => ⟨hin, fun z => absurd (by rw [w13, w17]) z, fun _ => ?_⟩⟩⟩
      rw [he, fst_t (by rw [hpp]; exact decide_eq_true ⟨y1, y2, y3⟩)] at hR
      exact hR _ _ _ ⟨rfl, hY7.2⟩
  exact key (zVc S) 0 (by omega) rfl
set_option maxHeartbeats 4000000 in
set_option maxRecDepth 100000 in
theorem C_M_vote (l : Launch) (D : va_G) (ca : Nat → Nat) (ad : Nat → Nat) (S : mI) (I0 : mI) (J0 : mJ) (a1 : Int32) (a2 : Int32) (a3 : Int32)  (hp : pY3 S I0 J0 a1 a2 a3) : Met l yM_vote wM_vote ({ frames := 4, cells := 0, slots := 0, locals := 98 } : Room) (va_Pc [.ref (ad 0), .int a1, .int a2, .int a3] (mPre D vwCl (xty ca) 23 ad (ymk ca ad) nL I0 J0)) (mQi D vwCl 23 ad (ymk ca ad) (qM_vote S I0 J0 a1 a2 a3)) 0 0 (mA 23 ad) := by
  refine Met.ofW (cc := cM_vote) (maxL := 8) (ret := (some .int)) (by decide) rfl ?_
  intro p e s m args below meth c s₁ B hml hv
  obtain ⟨rfl, hP, hK, hD0, hN⟩ := hv
  have hx := B.exec
  have hb := B.bytes
  have hr := B.returns
  have htb : ∀ w ∈ wb, w.before _ s = true := fun w h => atoms_spec (ws := wM_vote) B.pre w (List.mem_cons_of_mem _ h)
  have hown : s.vm.findClass RM = some m.cls := findClass_of_methodNamed B.named
  have hlk := B.notSynchronized
  have hD := mw_Dm hD0
  have hS : va_S (mA 23 ad) s.heap s.heap [] := va_S.rf
  have hl := lv_entry ([.ref (ad 0), .int a1, .int a2, .int a3]) (n := 8) (Nat.le_of_ble_eq_true rfl)
  rw [lg_entry_eq]
  generalize (lg_sl ([.ref (ad 0), .int a1, .int a2, .int a3]) ++ List.replicate (8 - (lg_sl ([.ref (ad 0), .int a1, .int a2, .int a3])).length) Slot.unset).toArray = ls at hl ⊢
  have hl : lv_has ls 8 [(0, .ref (ad 0)), (1, .int a1), (2, .int a2), (3, .int a3)] := hl
  obtain ⟨K76, hK76⟩ : ∃ K : mI → mJ → Int32 → Int32 → Int32 → Prop, K = (fun I J x4 x5 x6 => ∀ (H : Heap) (locs : List Loc) (ls : Array Slot), va_P D vwCl (mw 23 ad (ymk ca ad) I J) H → va_S (mA 23 ad) s.heap H locs → lv_has ls 8 [(0, .ref (ad 0)), (1, .int a1), (2, .int a2), (3, .int a3), (4, .int x4), (5, .int x5), (6, .int x6)] → W p l e (headSpec wM_vote ({ frames := 4, cells := 0, slots := 0, locals := 98 } : Room)).room s m (([.ref (ad 0), .int a1, .int a2, .int a3] : List Value).toArray) below meth c H locs 0 0 (MQ below (mQi D vwCl 23 ad (ymk ca ad) (qM_vote S I0 J0 a1 a2 a3)) (([.ref (ad 0), .int a1, .int a2, .int a3] : List Value).toArray) s 0 0 (mA 23 ad)) (F0 m 76 ls [])) := ⟨_, rfl⟩
  have c76 : ∀ (I : mI) (J : mJ) (x4 : Int32) (x5 : Int32) (x6 : Int32), wp_M_vote_76 K76 (qM_vote S I0 J0 a1 a2 a3) I J a1 a2 a3 x4 x5 x6 → K76 I J x4 x5 x6 := by
    intro I J x4 x5 x6 h
    rw [hK76]
    intro H locs ls hP hS hl
    unfold wp_M_vote_76 at h
    refine lv_iload hx hb dM_vote_76 (lv_at hl 6 rfl) ?_
    refine lv_aload_n hx hb dM_vote_78 rfl (lv_at hl 0 rfl) ?_
    refine va_get (D := D) (ci := 6) (v := .int (I 0 11)) (C := RM) (T := TM) (N := 33) hx hb htb inM hown hK hP 0 (mw_at (by decide) (ym_0 _ _ _ _)) rfl 11 (by decide) (htb _ k2_183) (fun _ h9 => h9) rfl dM_vote_79 ?_
    refine lv_icmp_ge (tgt := 179) hx hb dM_vote_82 (by decide) (fun hc => ?_) (fun hc => ?_)
    · have h := h.1 hc
      refine lv_aload_n hx hb dM_vote_179 rfl (lv_at hl 0 rfl) ?_
      refine va_get (D := D) (ci := 6) (v := .int (I 0 11)) (C := RM) (T := TM) (N := 33) hx hb htb inM hown hK hP 0 (mw_at (by decide) (ym_0 _ _ _ _)) rfl 11 (by decide) (htb _ k2_183) (fun _ h9 => h9) rfl dM_vote_180 ?_
      refine lv_bipush (v := 80) hx hb dM_vote_183 (by decide) ?_
      refine lv_icmp_ne (tgt := 191) hx hb dM_vote_185 (by decide) (fun hc => ?_) (fun hc => ?_)
      · have h := h.1 hc
        refine lv_aload_n hx hb dM_vote_191 rfl (lv_at hl 0 rfl) ?_
        refine va_get (D := D) (ci := 6) (v := .ref (ad 7)) (C := RM) (T := TM) (N := 33) hx hb htb inM hown hK hP 0 (mw_at (by decide) (ym_0 _ _ _ _)) rfl 12 (by decide) (htb _ k2_184) (fun _ h9 => h9) rfl dM_vote_192 ?_
        refine lv_aload_n hx hb dM_vote_195 rfl (lv_at hl 0 rfl) ?_
        refine va_get (D := D) (ci := 6) (v := .int (I 0 11)) (C := RM) (T := TM) (N := 33) hx hb htb inM hown hK hP 0 (mw_at (by decide) (ym_0 _ _ _ _)) rfl 11 (by decide) (htb _ k2_183) (fun _ h9 => h9) rfl dM_vote_196 ?_
        refine lv_iload_n hx hb dM_vote_199 rfl (lv_at hl 1 rfl) ?_
        obtain ⟨hn13, h⟩ := h
        refine mr_iast hx hb hK hP hD hS 7 0 (by decide) (fun _ => rfl) rfl hn13 dM_vote_200 (fun H locs hP hS => ?_)
        generalize heI14 : mu I 7 (I 0 11).toNatClampNeg a1 = I14 at hP
        have h := h I14 heI14.symm
        refine lv_aload_n hx hb dM_vote_201 rfl (lv_at hl 0 rfl) ?_
        refine va_get (D := D) (ci := 6) (v := .ref (ad 8)) (C := RM) (T := TM) (N := 33) hx hb htb inM hown hK hP 0 (mw_at (by decide) (ym_0 _ _ _ _)) rfl 13 (by decide) (htb _ k2_185) (fun _ h9 => h9) rfl dM_vote_202 ?_
        refine lv_aload_n hx hb dM_vote_205 rfl (lv_at hl 0 rfl) ?_
        refine va_get (D := D) (ci := 6) (v := .int (I14 0 11)) (C := RM) (T := TM) (N := 33) hx hb htb inM hown hK hP 0 (mw_at (by decide) (ym_0 _ _ _ _)) rfl 11 (by decide) (htb _ k2_183) (fun _ h9 => h9) rfl dM_vote_206 ?_
        refine lv_iload_n hx hb dM_vote_209 rfl (lv_at hl 3 rfl) ?_
        obtain ⟨hn15, h⟩ := h
        refine mr_iast hx hb hK hP hD hS 8 0 (by decide) (fun _ => rfl) rfl hn15 dM_vote_210 (fun H locs hP hS => ?_)
        generalize heI16 : mu I14 8 (I14 0 11).toNatClampNeg a3 = I16 at hP
        have h := h I16 heI16.symm
        refine lv_aload_n hx hb dM_vote_211 rfl (lv_at hl 0 rfl) ?_
        refine va_get (D := D) (ci := 6) (v := .ref (ad 9)) (C := RM) (T := TM) (N := 33) hx hb htb inM hown hK hP 0 (mw_at (by decide) (ym_0 _ _ _ _)) rfl 14 (by decide) (htb _ k2_186) (fun _ h9 => h9) rfl dM_vote_212 ?_
        refine lv_aload_n hx hb dM_vote_215 rfl (lv_at hl 0 rfl) ?_
        refine va_get (D := D) (ci := 6) (v := .int (I16 0 11)) (C := RM) (T := TM) (N := 33) hx hb htb inM hown hK hP 0 (mw_at (by decide) (ym_0 _ _ _ _)) rfl 11 (by decide) (htb _ k2_183) (fun _ h9 => h9) rfl dM_vote_216 ?_
        refine lv_iload_n hx hb dM_vote_219 rfl (lv_at hl 2 rfl) ?_
        obtain ⟨hn17, h⟩ := h
        refine mr_iast hx hb hK hP hD hS 9 0 (by decide) (fun _ => rfl) rfl hn17 dM_vote_220 (fun H locs hP hS => ?_)
        generalize heI18 : mu I16 9 (I16 0 11).toNatClampNeg a2 = I18 at hP
        have h := h I18 heI18.symm
        refine lv_aload_n hx hb dM_vote_221 rfl (lv_at hl 0 rfl) ?_
        refine va_get (D := D) (ci := 6) (v := .ref (ad 10)) (C := RM) (T := TM) (N := 33) hx hb htb inM hown hK hP 0 (mw_at (by decide) (ym_0 _ _ _ _)) rfl 15 (by decide) (htb _ k2_187) (fun _ h9 => h9) rfl dM_vote_222 ?_
        refine lv_aload_n hx hb dM_vote_225 rfl (lv_at hl 0 rfl) ?_
        refine va_get (D := D) (ci := 6) (v := .int (I18 0 11)) (C := RM) (T := TM) (N := 33) hx hb htb inM hown hK hP 0 (mw_at (by decide) (ym_0 _ _ _ _)) rfl 11 (by decide) (htb _ k2_183) (fun _ h9 => h9) rfl dM_vote_226 ?_
        refine lv_aload_n hx hb dM_vote_229 rfl (lv_at hl 0 rfl) ?_
        refine va_get (D := D) (ci := 6) (v := .int (I18 0 28)) (C := RM) (T := TM) (N := 33) hx hb htb inM hown hK hP 0 (mw_at (by decide) (ym_0 _ _ _ _)) rfl 28 (by decide) (htb _ k2_200) (fun _ h9 => h9) rfl dM_vote_230 ?_
        obtain ⟨hn19, h⟩ := h
        refine mr_iast hx hb hK hP hD hS 10 0 (by decide) (fun _ => rfl) rfl hn19 dM_vote_233 (fun H locs hP hS => ?_)
        generalize heI20 : mu I18 10 (I18 0 11).toNatClampNeg (I18 0 28) = I20 at hP
        have h := h I20 heI20.symm
        refine lv_aload_n hx hb dM_vote_234 rfl (lv_at hl 0 rfl) ?_
        refine va_get (D := D) (ci := 6) (v := .ref (ad 11)) (C := RM) (T := TM) (N := 33) hx hb htb inM hown hK hP 0 (mw_at (by decide) (ym_0 _ _ _ _)) rfl 16 (by decide) (htb _ k2_188) (fun _ h9 => h9) rfl dM_vote_235 ?_
        refine lv_aload_n hx hb dM_vote_238 rfl (lv_at hl 0 rfl) ?_
        refine va_get (D := D) (ci := 6) (v := .int (I20 0 11)) (C := RM) (T := TM) (N := 33) hx hb htb inM hown hK hP 0 (mw_at (by decide) (ym_0 _ _ _ _)) rfl 11 (by decide) (htb _ k2_183) (fun _ h9 => h9) rfl dM_vote_239 ?_
        refine lv_aload_n hx hb dM_vote_242 rfl (lv_at hl 0 rfl) ?_
        refine va_get (D := D) (ci := 6) (v := .int (I20 0 29)) (C := RM) (T := TM) (N := 33) hx hb htb inM hown hK hP 0 (mw_at (by decide) (ym_0 _ _ _ _)) rfl 29 (by decide) (htb _ k2_201) (fun _ h9 => h9) rfl dM_vote_243 ?_
        obtain ⟨hn21, h⟩ := h
        refine mr_iast hx hb hK hP hD hS 11 0 (by decide) (fun _ => rfl) rfl hn21 dM_vote_246 (fun H locs hP hS => ?_)
        generalize heI22 : mu I20 11 (I20 0 11).toNatClampNeg (I20 0 29) = I22 at hP
        have h := h I22 heI22.symm
        refine lv_aload_n hx hb dM_vote_247 rfl (lv_at hl 0 rfl) ?_
        refine va_get (D := D) (ci := 6) (v := .ref (ad 12)) (C := RM) (T := TM) (N := 33) hx hb htb inM hown hK hP 0 (mw_at (by decide) (ym_0 _ _ _ _)) rfl 17 (by decide) (htb _ k2_189) (fun _ h9 => h9) rfl dM_vote_248 ?_
        refine lv_aload_n hx hb dM_vote_251 rfl (lv_at hl 0 rfl) ?_
        refine va_get (D := D) (ci := 6) (v := .int (I22 0 11)) (C := RM) (T := TM) (N := 33) hx hb htb inM hown hK hP 0 (mw_at (by decide) (ym_0 _ _ _ _)) rfl 11 (by decide) (htb _ k2_183) (fun _ h9 => h9) rfl dM_vote_252 ?_
        refine lv_iload hx hb dM_vote_255 (lv_at hl 4 rfl) ?_
        obtain ⟨hn23, h⟩ := h
        refine mr_iast hx hb hK hP hD hS 12 0 (by decide) (fun _ => rfl) rfl hn23 dM_vote_257 (fun H locs hP hS => ?_)
        generalize heI24 : mu I22 12 (I22 0 11).toNatClampNeg x4 = I24 at hP
        have h := h I24 heI24.symm
        refine lv_aload_n hx hb dM_vote_258 rfl (lv_at hl 0 rfl) ?_
        refine va_get (D := D) (ci := 6) (v := .ref (ad 13)) (C := RM) (T := TM) (N := 33) hx hb htb inM hown hK hP 0 (mw_at (by decide) (ym_0 _ _ _ _)) rfl 18 (by decide) (htb _ k2_190) (fun _ h9 => h9) rfl dM_vote_259 ?_
        refine lv_aload_n hx hb dM_vote_262 rfl (lv_at hl 0 rfl) ?_
        refine va_get (D := D) (ci := 6) (v := .int (I24 0 11)) (C := RM) (T := TM) (N := 33) hx hb htb inM hown hK hP 0 (mw_at (by decide) (ym_0 _ _ _ _)) rfl 11 (by decide) (htb _ k2_183) (fun _ h9 => h9) rfl dM_vote_263 ?_
        refine lv_iload hx hb dM_vote_266 (lv_at hl 5 rfl) ?_
        obtain ⟨hn25, h⟩ := h
        refine mr_iast hx hb hK hP hD hS 13 0 (by decide) (fun _ => rfl) rfl hn25 dM_vote_268 (fun H locs hP hS => ?_)
        generalize heI26 : mu I24 13 (I24 0 11).toNatClampNeg x5 = I26 at hP
        have h := h I26 heI26.symm
        refine lv_aload_n hx hb dM_vote_269 rfl (lv_at hl 0 rfl) ?_
        refine lv_dup hx hb dM_vote_270 rfl ?_
        refine va_get (D := D) (ci := 6) (v := .int (I26 0 11)) (C := RM) (T := TM) (N := 33) hx hb htb inM hown hK hP 0 (mw_at (by decide) (ym_0 _ _ _ _)) rfl 11 (by decide) (htb _ k2_183) (fun _ h9 => h9) rfl dM_vote_271 ?_
        refine lv_iconst (v := 1) hx hb dM_vote_274 (by decide) ?_
        refine lv_iadd hx hb dM_vote_275 ?_
        refine mr_puti hx hb htb inM tyM tyM_ok nmM hown hK hP hD hS 0 (by decide) (ym_0 _ _ _ _) rfl 11 (by decide) (htb _ k2_183) (fun _ h9 => h9) rfl (by decide +kernel) (Nat.le_of_ble_eq_true rfl) (ym_p11 _ _ _ _ _) dM_vote_276 (fun H locs hP hS => ?_)
        generalize heI27 : mu I26 0 11 ((I26 0 11) + 1) = I27 at hP
        have h := h I27 heI27.symm
        refine lv_aload_n hx hb dM_vote_279 rfl (lv_at hl 0 rfl) ?_
        refine va_get (D := D) (ci := 6) (v := .int (I27 0 11)) (C := RM) (T := TM) (N := 33) hx hb htb inM hown hK hP 0 (mw_at (by decide) (ym_0 _ _ _ _)) rfl 11 (by decide) (htb _ k2_183) (fun _ h9 => h9) rfl dM_vote_280 ?_
        refine lv_iconst (v := 1) hx hb dM_vote_283 (by decide) ?_
        refine lv_isub hx hb dM_vote_284 ?_
        exact me_i hx hb hr hlk hP hS h dM_vote_285
      · have h := h.2 hc
        refine lv_bipush (v := (-2)) hx hb dM_vote_188 (by decide) ?_
        exact me_i hx hb hr hlk hP hS h dM_vote_190
    · have h := h.2 hc
      refine lv_aload_n hx hb dM_vote_85 rfl (lv_at hl 0 rfl) ?_
      refine va_get (D := D) (ci := 6) (v := .ref (ad 7)) (C := RM) (T := TM) (N := 33) hx hb htb inM hown hK hP 0 (mw_at (by decide) (ym_0 _ _ _ _)) rfl 12 (by decide) (htb _ k2_184) (fun _ h9 => h9) rfl dM_vote_86 ?_
      refine lv_iload hx hb dM_vote_89 (lv_at hl 6 rfl) ?_
      obtain ⟨hn28, h⟩ := h
      refine mr_iald hx hb hK hP 7 0 (by decide) rfl rfl hn28 dM_vote_91 ?_
      refine lv_iload_n hx hb dM_vote_92 rfl (lv_at hl 1 rfl) ?_
      refine lv_icmp_ne (tgt := 122) hx hb dM_vote_93 (by decide) (fun hc => ?_) (fun hc => ?_)
      · have h := h.1 hc
        refine lv_iconst (v := 0) hx hb dM_vote_122 (by decide) ?_
        refine lv_istore (lv' := [(7, .int 0), (0, .ref (ad 0)), (1, .int a1), (2, .int a2), (3, .int a3), (4, .int x4), (5, .int x5), (6, .int x6)]) hx hb dM_vote_123 hl (by decide) rfl (fun ls hl => ?_)
        refine lv_iload hx hb dM_vote_125 (lv_at hl 0 rfl) ?_
        refine lv_if_eq (tgt := 173) hx hb dM_vote_127 (by decide) (fun hc => ?_) (fun hc => ?_)
        · skip
          refine lv_iinc (k := 7) (v := x6 + 1) (lv' := [(6, .int (x6 + 1)), (7, .int 0), (0, .ref (ad 0)), (1, .int a1), (2, .int a2), (3, .int a3), (4, .int x4), (5, .int x5)]) hx hb dM_vote_173 hl rfl (by rfl) (by decide) rfl (fun ls hl => ?_)
          refine lv_goto (tgt := 76) hx hb dM_vote_176 (by decide) ?_
          rw [hK76] at h
          exact h _ _ _ hP hS (lv_sub hl [2, 3, 4, 5, 6, 7, 0] rfl)
        · first | exact absurd hc (by decide) | exact absurd (by decide) hc
      · have h := h.2 hc
        refine lv_aload_n hx hb dM_vote_96 rfl (lv_at hl 0 rfl) ?_
        refine va_get (D := D) (ci := 6) (v := .ref (ad 8)) (C := RM) (T := TM) (N := 33) hx hb htb inM hown hK hP 0 (mw_at (by decide) (ym_0 _ _ _ _)) rfl 13 (by decide) (htb _ k2_185) (fun _ h9 => h9) rfl dM_vote_97 ?_
        refine lv_iload hx hb dM_vote_100 (lv_at hl 6 rfl) ?_
        obtain ⟨hn29, h⟩ := h
        refine mr_iald hx hb hK hP 8 0 (by decide) rfl rfl hn29 dM_vote_102 ?_
        refine lv_iload_n hx hb dM_vote_103 rfl (lv_at hl 3 rfl) ?_
        refine lv_icmp_ne (tgt := 122) hx hb dM_vote_104 (by decide) (fun hc => ?_) (fun hc => ?_)
        · have h := h.1 hc
          refine lv_iconst (v := 0) hx hb dM_vote_122 (by decide) ?_
          refine lv_istore (lv' := [(7, .int 0), (0, .ref (ad 0)), (1, .int a1), (2, .int a2), (3, .int a3), (4, .int x4), (5, .int x5), (6, .int x6)]) hx hb dM_vote_123 hl (by decide) rfl (fun ls hl => ?_)
          refine lv_iload hx hb dM_vote_125 (lv_at hl 0 rfl) ?_
          refine lv_if_eq (tgt := 173) hx hb dM_vote_127 (by decide) (fun hc => ?_) (fun hc => ?_)
          · skip
            refine lv_iinc (k := 7) (v := x6 + 1) (lv' := [(6, .int (x6 + 1)), (7, .int 0), (0, .ref (ad 0)), (1, .int a1), (2, .int a2), (3, .int a3), (4, .int x4), (5, .int x5)]) hx hb dM_vote_173 hl rfl (by rfl) (by decide) rfl (fun ls hl => ?_)
            refine lv_goto (tgt := 76) hx hb dM_vote_176 (by decide) ?_
            rw [hK76] at h
            exact h _ _ _ hP hS (lv_sub hl [2, 3, 4, 5, 6, 7, 0] rfl)
          · first | exact absurd hc (by decide) | exact absurd (by decide) hc
        · have h := h.2 hc
          refine lv_aload_n hx hb dM_vote_107 rfl (lv_at hl 0 rfl) ?_
          refine va_get (D := D) (ci := 6) (v := .ref (ad 9)) (C := RM) (T := TM) (N := 33) hx hb htb inM hown hK hP 0 (mw_at (by decide) (ym_0 _ _ _ _)) rfl 14 (by decide) (htb _ k2_186) (fun _ h9 => h9) rfl dM_vote_108 ?_
          refine lv_iload hx hb dM_vote_111 (lv_at hl 6 rfl) ?_
          obtain ⟨hn30, h⟩ := h
          refine mr_iald hx hb hK hP 9 0 (by decide) rfl rfl hn30 dM_vote_113 ?_
          refine lv_iload_n hx hb dM_vote_114 rfl (lv_at hl 2 rfl) ?_
          refine lv_icmp_ne (tgt := 122) hx hb dM_vote_115 (by decide) (fun hc => ?_) (fun hc => ?_)
          · have h := h.1 hc
            refine lv_iconst (v := 0) hx hb dM_vote_122 (by decide) ?_
            refine lv_istore (lv' := [(7, .int 0), (0, .ref (ad 0)), (1, .int a1), (2, .int a2), (3, .int a3), (4, .int x4), (5, .int x5), (6, .int x6)]) hx hb dM_vote_123 hl (by decide) rfl (fun ls hl => ?_)
            refine lv_iload hx hb dM_vote_125 (lv_at hl 0 rfl) ?_
            refine lv_if_eq (tgt := 173) hx hb dM_vote_127 (by decide) (fun hc => ?_) (fun hc => ?_)
            · skip
              refine lv_iinc (k := 7) (v := x6 + 1) (lv' := [(6, .int (x6 + 1)), (7, .int 0), (0, .ref (ad 0)), (1, .int a1), (2, .int a2), (3, .int a3), (4, .int x4), (5, .int x5)]) hx hb dM_vote_173 hl rfl (by rfl) (by decide) rfl (fun ls hl => ?_)
              refine lv_goto (tgt := 76) hx hb dM_vote_176 (by decide) ?_
              rw [hK76] at h
              exact h _ _ _ hP hS (lv_sub hl [2, 3, 4, 5, 6, 7, 0] rfl)
            · first | exact absurd hc (by decide) | exact absurd (by decide) hc
          · have h := h.2 hc
            refine lv_iconst (v := 1) hx hb dM_vote_118 (by decide) ?_
            refine lv_goto (tgt := 123) hx hb dM_vote_119 (by decide) ?_
            refine lv_istore (lv' := [(7, .int 1), (0, .ref (ad 0)), (1, .int a1), (2, .int a2), (3, .int a3), (4, .int x4), (5, .int x5), (6, .int x6)]) hx hb dM_vote_123 hl (by decide) rfl (fun ls hl => ?_)
            refine lv_iload hx hb dM_vote_125 (lv_at hl 0 rfl) ?_
            refine lv_if_eq (tgt := 173) hx hb dM_vote_127 (by decide) (fun hc => ?_) (fun hc => ?_)
            · first | exact absurd hc (by decide) | exact absurd (by decide) hc
            · skip
              refine lv_aload_n hx hb dM_vote_130 rfl (lv_at hl 1 rfl) ?_
              refine va_get (D := D) (ci := 6) (v := .ref (ad 10)) (C := RM) (T := TM) (N := 33) hx hb htb inM hown hK hP 0 (mw_at (by decide) (ym_0 _ _ _ _)) rfl 15 (by decide) (htb _ k2_187) (fun _ h9 => h9) rfl dM_vote_131 ?_
              refine lv_iload hx hb dM_vote_134 (lv_at hl 7 rfl) ?_
              obtain ⟨hn31, h⟩ := h
              refine mr_iald hx hb hK hP 10 0 (by decide) rfl rfl hn31 dM_vote_136 ?_
              refine lv_aload_n hx hb dM_vote_137 rfl (lv_at hl 1 rfl) ?_
              refine va_get (D := D) (ci := 6) (v := .int (I 0 28)) (C := RM) (T := TM) (N := 33) hx hb htb inM hown hK hP 0 (mw_at (by decide) (ym_0 _ _ _ _)) rfl 28 (by decide) (htb _ k2_200) (fun _ h9 => h9) rfl dM_vote_138 ?_
              refine lv_icmp_ne (tgt := 173) hx hb dM_vote_141 (by decide) (fun hc => ?_) (fun hc => ?_)
              · have h := h.1 hc
                refine lv_iinc (k := 7) (v := x6 + 1) (lv' := [(6, .int (x6 + 1)), (7, .int 1), (0, .ref (ad 0)), (1, .int a1), (2, .int a2), (3, .int a3), (4, .int x4), (5, .int x5)]) hx hb dM_vote_173 hl rfl (by rfl) (by decide) rfl (fun ls hl => ?_)
                refine lv_goto (tgt := 76) hx hb dM_vote_176 (by decide) ?_
                rw [hK76] at h
                exact h _ _ _ hP hS (lv_sub hl [2, 3, 4, 5, 6, 7, 0] rfl)
              · have h := h.2 hc
                refine lv_aload_n hx hb dM_vote_144 rfl (lv_at hl 1 rfl) ?_
                refine va_get (D := D) (ci := 6) (v := .ref (ad 11)) (C := RM) (T := TM) (N := 33) hx hb htb inM hown hK hP 0 (mw_at (by decide) (ym_0 _ _ _ _)) rfl 16 (by decide) (htb _ k2_188) (fun _ h9 => h9) rfl dM_vote_145 ?_
                refine lv_iload hx hb dM_vote_148 (lv_at hl 7 rfl) ?_
                obtain ⟨hn32, h⟩ := h
                refine mr_iald hx hb hK hP 11 0 (by decide) rfl rfl hn32 dM_vote_150 ?_
                refine lv_aload_n hx hb dM_vote_151 rfl (lv_at hl 1 rfl) ?_
                refine va_get (D := D) (ci := 6) (v := .int (I 0 29)) (C := RM) (T := TM) (N := 33) hx hb htb inM hown hK hP 0 (mw_at (by decide) (ym_0 _ _ _ _)) rfl 29 (by decide) (htb _ k2_201) (fun _ h9 => h9) rfl dM_vote_152 ?_
                refine lv_icmp_ne (tgt := 173) hx hb dM_vote_155 (by decide) (fun hc => ?_) (fun hc => ?_)
                · have h := h.1 hc
                  refine lv_iinc (k := 7) (v := x6 + 1) (lv' := [(6, .int (x6 + 1)), (7, .int 1), (0, .ref (ad 0)), (1, .int a1), (2, .int a2), (3, .int a3), (4, .int x4), (5, .int x5)]) hx hb dM_vote_173 hl rfl (by rfl) (by decide) rfl (fun ls hl => ?_)
                  refine lv_goto (tgt := 76) hx hb dM_vote_176 (by decide) ?_
                  rw [hK76] at h
                  exact h _ _ _ hP hS (lv_sub hl [2, 3, 4, 5, 6, 7, 0] rfl)
                · have h := h.2 hc
                  refine lv_aload_n hx hb dM_vote_158 rfl (lv_at hl 1 rfl) ?_
                  refine va_get (D := D) (ci := 6) (v := .ref (ad 13)) (C := RM) (T := TM) (N := 33) hx hb htb inM hown hK hP 0 (mw_at (by decide) (ym_0 _ _ _ _)) rfl 18 (by decide) (htb _ k2_190) (fun _ h9 => h9) rfl dM_vote_159 ?_
                  refine lv_iload hx hb dM_vote_162 (lv_at hl 7 rfl) ?_
                  obtain ⟨hn33, h⟩ := h
                  refine mr_iald hx hb hK hP 13 0 (by decide) rfl rfl hn33 dM_vote_164 ?_
                  refine lv_iload hx hb dM_vote_165 (lv_at hl 6 rfl) ?_
                  refine lv_icmp_ne (tgt := 173) hx hb dM_vote_167 (by decide) (fun hc => ?_) (fun hc => ?_)
                  · have h := h.1 hc
                    refine lv_iinc (k := 7) (v := x6 + 1) (lv' := [(6, .int (x6 + 1)), (7, .int 1), (0, .ref (ad 0)), (1, .int a1), (2, .int a2), (3, .int a3), (4, .int x4), (5, .int x5)]) hx hb dM_vote_173 hl rfl (by rfl) (by decide) rfl (fun ls hl => ?_)
                    refine lv_goto (tgt := 76) hx hb dM_vote_176 (by decide) ?_
                    rw [hK76] at h
                    exact h _ _ _ hP hS (lv_sub hl [2, 3, 4, 5, 6, 7, 0] rfl)
                  · have h := h.2 hc
                    refine lv_iload hx hb dM_vote_170 (lv_at hl 7 rfl) ?_
                    exact me_i hx hb hr hlk hP hS h dM_vote_172
  have h := P_M_vote S I0 J0 a1 a2 a3  hp K76 (qM_vote S I0 J0 a1 a2 a3) c76 (fun _ _ _ h => h)
  unfold wp_M_vote at h
  refine lv_aload_n hx hb dM_vote_0 rfl (lv_at hl 0 rfl) ?_
  refine lv_iload_n hx hb dM_vote_1 rfl (lv_at hl 1 rfl) ?_
  refine mc_r (va_runV (As := [.int a1]) (rest := []) ⟨hx, hb, hml, hown, htb⟩ (C_M_isValidator l D ca ad I0 J0 a1) (cwV 1 htb (gd_v k3_36 k3_38 ks19 k1_8 k3_39) rfl rfl rfl (by decide +kernel) ⟨Nat.le_of_ble_eq_true rfl, Nat.le_of_ble_eq_true rfl⟩) (mPre_V hK hP hD hN rfl (mw_at (by decide) (ym_0 _ _ _ _))) rfl rfl hl.1 rfl (lv_room (Nat.le_of_ble_eq_true rfl)) dM_vote_2 ⟨Nat.le_of_ble_eq_true rfl, Nat.le_of_ble_eq_true rfl⟩) hS (fun H locs hP hS => ?_)
  refine lv_if_eq (tgt := 27) hx hb dM_vote_5 (by decide) (fun hc => ?_) (fun hc => ?_)
  · have h := h.1 hc
    refine lv_iconst (v := (-1)) hx hb dM_vote_27 (by decide) ?_
    exact me_i hx hb hr hlk hP hS h dM_vote_28
  · have h := h.2 hc
    refine lv_aload_n hx hb dM_vote_8 rfl (lv_at hl 0 rfl) ?_
    refine lv_iload_n hx hb dM_vote_9 rfl (lv_at hl 2 rfl) ?_
    refine mc_r (va_runV (As := [.int a2]) (rest := []) ⟨hx, hb, hml, hown, htb⟩ (C_M_isBlock l D ca ad I0 J0 a2) (cwV 1 htb (gd_v k3_40 k3_42 ks20 k1_8 k3_43) rfl rfl rfl (by decide +kernel) ⟨Nat.le_of_ble_eq_true rfl, Nat.le_of_ble_eq_true rfl⟩) (mPre_V hK hP hD hN rfl (mw_at (by decide) (ym_0 _ _ _ _))) rfl rfl hl.1 rfl (lv_room (Nat.le_of_ble_eq_true rfl)) dM_vote_10 ⟨Nat.le_of_ble_eq_true rfl, Nat.le_of_ble_eq_true rfl⟩) hS (fun H locs hP hS => ?_)
    refine lv_if_eq (tgt := 27) hx hb dM_vote_13 (by decide) (fun hc => ?_) (fun hc => ?_)
    · have h := h.1 hc
      refine lv_iconst (v := (-1)) hx hb dM_vote_27 (by decide) ?_
      exact me_i hx hb hr hlk hP hS h dM_vote_28
    · have h := h.2 hc
      refine lv_iload_n hx hb dM_vote_16 rfl (lv_at hl 3 rfl) ?_
      refine lv_iconst (v := 0) hx hb dM_vote_17 (by decide) ?_
      refine lv_sipush (v := 240) hx hb dM_vote_18 (by decide) ?_
      refine mc_r (va_runS (As := [.int a3, .int 0, .int 240]) (rest := []) ⟨hx, hb, hml, hown, htb⟩ (C_M_outside l D ca ad I0 J0 a3 0 240) (va_cwS 3 htb (gd_s k3_44 k3_45 k1_8 k3_46) rfl rfl rfl (by decide +kernel) ⟨Nat.le_of_ble_eq_true rfl, Nat.le_of_ble_eq_true rfl⟩) (mPre_S hK hP hD hN) rfl rfl hl.1 rfl (lv_room (Nat.le_of_ble_eq_true rfl)) dM_vote_21 ⟨Nat.le_of_ble_eq_true rfl, Nat.le_of_ble_eq_true rfl⟩) hS (fun H locs hP hS => ?_)
      refine lv_if_eq (tgt := 29) hx hb dM_vote_24 (by decide) (fun hc => ?_) (fun hc => ?_)
      · have h := h.1 hc
        refine lv_aload_n hx hb dM_vote_29 rfl (lv_at hl 0 rfl) ?_
        refine lv_iload_n hx hb dM_vote_30 rfl (lv_at hl 2 rfl) ?_
        obtain ⟨S4, h⟩ := h
        obtain ⟨hp5, h⟩ := h
        refine mc_v (va_runV (As := [.int a2]) (rest := []) ⟨hx, hb, hml, hown, htb⟩ (C_M_make l D ca ad S4 I0 J0 a2 hp5) (cwV 1 htb (gd_v k3_47 k3_49 ks21 k1_8 k3_50) rfl rfl rfl (by decide +kernel) ⟨Nat.le_of_ble_eq_true rfl, Nat.le_of_ble_eq_true rfl⟩) (mPre_V hK hP hD hN rfl (mw_at (by decide) (ym_0 _ _ _ _))) rfl rfl hl.1 rfl (lv_room (Nat.le_of_ble_eq_true rfl)) dM_vote_31 ⟨Nat.le_of_ble_eq_true rfl, Nat.le_of_ble_eq_true rfl⟩) hS (fun I7 J8 H locs hpost hP hS => ?_)
        have h := h I7 J8 hpost
        refine lv_iload_n hx hb dM_vote_34 rfl (lv_at hl 3 rfl) ?_
        refine lv_aload_n hx hb dM_vote_35 rfl (lv_at hl 0 rfl) ?_
        refine va_get (D := D) (ci := 6) (v := .int (I7 0 1)) (C := RM) (T := TM) (N := 33) hx hb htb inM hown hK hP 0 (mw_at (by decide) (ym_0 _ _ _ _)) rfl 1 (by decide) (htb _ k2_173) (fun _ h9 => h9) rfl dM_vote_36 ?_
        obtain ⟨hz9, h⟩ := h
        refine lv_idiv hx hb dM_vote_39 hz9 ?_
        refine lv_istore (lv' := [(4, .int (a3 / (I7 0 1))), (0, .ref (ad 0)), (1, .int a1), (2, .int a2), (3, .int a3)]) hx hb dM_vote_40 hl (by decide) rfl (fun ls hl => ?_)
        refine lv_aload_n hx hb dM_vote_42 rfl (lv_at hl 1 rfl) ?_
        refine va_get (D := D) (ci := 6) (v := .ref (ad 3)) (C := RM) (T := TM) (N := 33) hx hb htb inM hown hK hP 0 (mw_at (by decide) (ym_0 _ _ _ _)) rfl 6 (by decide) (htb _ k2_178) (fun _ h9 => h9) rfl dM_vote_43 ?_
        refine lv_iload_n hx hb dM_vote_46 rfl (lv_at hl 3 rfl) ?_
        obtain ⟨hn10, h⟩ := h
        refine mr_iald hx hb hK hP 3 0 (by decide) rfl rfl hn10 dM_vote_47 ?_
        refine lv_iload_n hx hb dM_vote_48 rfl (lv_at hl 4 rfl) ?_
        refine lv_icmp_gt (tgt := 61) hx hb dM_vote_49 (by decide) (fun hc => ?_) (fun hc => ?_)
        · have h := h.1 hc
          refine lv_bipush (v := (-3)) hx hb dM_vote_61 (by decide) ?_
          exact me_i hx hb hr hlk hP hS h dM_vote_63
        · have h := h.2 hc
          refine lv_aload_n hx hb dM_vote_52 rfl (lv_at hl 1 rfl) ?_
          refine va_get (D := D) (ci := 6) (v := .int (I7 0 28)) (C := RM) (T := TM) (N := 33) hx hb htb inM hown hK hP 0 (mw_at (by decide) (ym_0 _ _ _ _)) rfl 28 (by decide) (htb _ k2_200) (fun _ h9 => h9) rfl dM_vote_53 ?_
          refine lv_iload hx hb dM_vote_56 (lv_at hl 0 rfl) ?_
          refine lv_icmp_lt (tgt := 64) hx hb dM_vote_58 (by decide) (fun hc => ?_) (fun hc => ?_)
          · have h := h.1 hc
            refine lv_aload_n hx hb dM_vote_64 rfl (lv_at hl 1 rfl) ?_
            refine lv_iload_n hx hb dM_vote_65 rfl (lv_at hl 3 rfl) ?_
            refine lv_iload hx hb dM_vote_66 (lv_at hl 0 rfl) ?_
            obtain ⟨S11, h⟩ := h
            obtain ⟨hp12, h⟩ := h
            refine mc_r (va_runV (As := [.int a2, .int (a3 / (I7 0 1))]) (rest := []) ⟨hx, hb, hml, hown, htb⟩ (C_M_checkpointBlock l D ca ad S11 I7 J8 a2 (a3 / (I7 0 1)) hp12) (cwV 2 htb (gd_v k3_71 k3_73 ks27 k1_8 k3_74) rfl rfl rfl (by decide +kernel) ⟨Nat.le_of_ble_eq_true rfl, Nat.le_of_ble_eq_true rfl⟩) (mPre_V hK hP hD hN rfl (mw_at (by decide) (ym_0 _ _ _ _))) rfl rfl hl.1 rfl (lv_room (Nat.le_of_ble_eq_true rfl)) dM_vote_68 ⟨Nat.le_of_ble_eq_true rfl, Nat.le_of_ble_eq_true rfl⟩) hS (fun H locs hP hS => ?_)
            refine lv_istore (lv' := [(5, .int (fM_checkpointBlock S11 I7 J8 a2 (a3 / (I7 0 1)))), (4, .int (a3 / (I7 0 1))), (0, .ref (ad 0)), (1, .int a1), (2, .int a2), (3, .int a3)]) hx hb dM_vote_71 hl (by decide) rfl (fun ls hl => ?_)
            refine lv_iconst (v := 0) hx hb dM_vote_73 (by decide) ?_
            refine lv_istore (lv' := [(6, .int 0), (5, .int (fM_checkpointBlock S11 I7 J8 a2 (a3 / (I7 0 1)))), (4, .int (a3 / (I7 0 1))), (0, .ref (ad 0)), (1, .int a1), (2, .int a2), (3, .int a3)]) hx hb dM_vote_74 hl (by decide) rfl (fun ls hl => ?_)
            rw [hK76] at h
            exact h _ _ _ hP hS (lv_sub hl [3, 4, 5, 6, 2, 1, 0] rfl)
          · have h := h.2 hc
            refine lv_bipush (v := (-3)) hx hb dM_vote_61 (by decide) ?_
            exact me_i hx hb hr hlk hP hS h dM_vote_63
      · have h := h.2 hc
        refine lv_iconst (v := (-1)) hx hb dM_vote_27 (by decide) ?_
        exact me_i hx hb hr hlk hP hS h dM_vote_28
def wp_M_propose_72 (K72 : mI → mJ → Int32 → Prop) (K108 : mI → mJ → Int32 → Prop) (R : Int32 → mI → mJ → Prop) (I : mI) (J : mJ) (a1 : Int32) (a2 : Int32) (x3 : Int32) : Prop :=
  (((I 0 9) ≤ x3 → K108 I J 0) ∧ (¬ ((I 0 9) ≤ x3) → (vp_in x3 4 ∧ (∃ (S17 : mI), (pM_item S17 I J (I 6 x3.toNatClampNeg) a1 a2 ∧ (∀ (r19 : Int32) (I20 : mI) (J21 : mJ), qM_item S17 I J (I 6 x3.toNatClampNeg) a1 a2 r19 I20 J21 → ((¬ (r19 = 0) → K72 I20 J21 (x3 + 1)) ∧ (r19 = 0 → R ((-10) - x3) I20 J21))))))))
def wp_M_propose_108 (K72 : mI → mJ → Int32 → Prop) (K108 : mI → mJ → Int32 → Prop) (R : Int32 → mI → mJ → Prop) (I : mI) (J : mJ) (a1 : Int32) (a2 : Int32) (x3 : Int32) : Prop :=
  (((I 0 9) ≤ x3 → (vp_in (I 0 4) 60 ∧ (∀ (I23 : mI), I23 = mu I 2 (I 0 4).toNatClampNeg a1 → (vp_in (I23 0 4) 60 ∧ (∀ (I25 : mI), I25 = mu I23 3 (I23 0 4).toNatClampNeg a2 → (vp_in (I25 0 4) 60 ∧ (∀ (I27 : mI), I27 = mu I25 4 (I25 0 4).toNatClampNeg (I25 0 9) → (∀ (I28 : mI), I28 = mu I27 0 9 0 → (∀ (I29 : mI), I29 = mu I28 0 4 ((I28 0 4) + 1) → R ((I29 0 4) - 1) I29 J))))))))) ∧ (¬ ((I 0 9) ≤ x3) → (vp_in x3 4 ∧ (vp_in ((4 * (I 0 4)) + x3) 240 ∧ (∀ (I32 : mI), I32 = mu I 5 ((4 * (I 0 4)) + x3).toNatClampNeg (I 6 x3.toNatClampNeg) → K108 I32 J (x3 + 1))))))
def wp_M_propose (K72 : mI → mJ → Int32 → Prop) (K108 : mI → mJ → Int32 → Prop) (R : Int32 → mI → mJ → Prop) (I0 : mI) (J0 : mJ) (a1 : Int32) (a2 : Int32) : Prop :=
  (((fM_isBlock I0 J0 a1) = 0 → R (-1) I0 J0) ∧ (¬ ((fM_isBlock I0 J0 a1) = 0) → (((fM_outside I0 J0 a2 1 240) = 0 → (∃ (S3 : mI), (pM_make S3 I0 J0 a1 ∧ (∀ (I6 : mI) (J7 : mJ), qM_make S3 I0 J0 a1 I6 J7 → (vp_in a1 60 ∧ ((a2 ≤ (I6 3 a1.toNatClampNeg) → R (-3) I6 J7) ∧ (¬ (a2 ≤ (I6 3 a1.toNatClampNeg)) → (¬ (I6 0 0) = 0 ∧ (vp_in (a2 - a2 / (I6 0 0) * (I6 0 0)) 7 ∧ (((I6 19 (a2 - a2 / (I6 0 0) * (I6 0 0)).toNatClampNeg) = 0 → ((¬ ((I6 0 4) = 60) → (∃ (S11 : mI), (pM_advance S11 I6 J7 a2 ∧ (∀ (I14 : mI) (J15 : mJ), qM_advance S11 I6 J7 a2 I14 J15 → K72 I14 J15 0)))) ∧ ((I6 0 4) = 60 → R (-2) I6 J7))) ∧ (¬ ((I6 19 (a2 - a2 / (I6 0 0) * (I6 0 0)).toNatClampNeg) = 0) → R (-3) I6 J7))))))))))) ∧ (¬ ((fM_outside I0 J0 a2 1 240) = 0) → R (-1) I0 J0))))
theorem P_M_propose (S : mI) (I0 : mI) (J0 : mJ) (a1 : Int32) (a2 : Int32)  (hp : pY2 S I0 J0 a1 a2) (K72 : mI → mJ → Int32 → Prop) (K108 : mI → mJ → Int32 → Prop) (R : Int32 → mI → mJ → Prop) (c72 : ∀ (I : mI) (J : mJ) (x3 : Int32), wp_M_propose_72 K72 K108 R I J a1 a2 x3 → K72 I J x3) (c108 : ∀ (I : mI) (J : mJ) (x3 : Int32), wp_M_propose_108 K72 K108 R I J a1 a2 x3 → K108 I J x3) (hR : ∀ (r : Int32) (I' : mI) (J' : mJ), qM_propose S I0 J0 a1 a2 r I' J' → R r I' J') : wp_M_propose K72 K108 R I0 J0 a1 a2 := by
  have hY : YR S I0 := hp
  have hb := hY.1.b
  unfold qM_propose at hR
  have bad : (¬ iBl S a1 ∨ a2 < 1 ∨ 240 < a2) → R (-1) I0 J0 := fun z => hR _ _ _ (by unfold oPro; rw [if_pos z]; exact ⟨rfl, hY.2⟩)
  unfold wp_M_propose
  refine ⟨fun h => bad (Or.inl (hY.isB.mp h)), fun h => ⟨fun h3 => ?_, fun h3 => bad (Or.inr (nn (fun q => h3 (out_0.mpr q))))⟩⟩
  have g1 : iBl S a1 := nn (fun q => h (hY.isB.mpr q))
  have g3 := out_0.mp h3
  have nb : ¬ (¬ iBl S a1 ∨ a2 < 1 ∨ 240 < a2) := fun q => q.elim (fun z => z g1) g3
  obtain ⟨p, hp0, rfl⟩ := hY.1.iB g1
  have h20 : ¬ a2 < 0 := fun z => g3 (Or.inl (Int32.lt_iff_toInt_lt.mpr (by
    have := Int32.lt_iff_toInt_lt.mp z
    have e0 : (0 : Int32).toInt = 0 := rfl
    have e1 : (1 : Int32).toInt = 1 := rfl
    rw [e0] at this
    rw [e1]
    omega)))
  obtain ⟨s, hs, rfl⟩ := nI_of2 (M := 240) (n := 240) rfl h20 (Int32.not_lt.mp (fun q => g3 (Or.inr q)))
  unfold oPro at hR
  rw [if_neg nb, cN_nI (n := p) (by omega), cN_nI (n := s) (by omega)] at hR
  refine ⟨S, ⟨hY, ⟨p, hp0, rfl⟩⟩, fun I6 J7 hq => ?_⟩
  obtain ⟨-, hg, hE⟩ := hq
  rw [cN_nI (by omega)] at hE
  have hY6 := hY.g hg
  have hsl := hY.1.sl hp0
  have hgw := hY.1.g hp0
  have hge := hY.1.ge hp0
  have hd := Nat.div_le_self s (zLn S)
  have hmod := Nat.mod_lt s (show 0 < zNv S by omega)
  rw [ic (n := p) (by omega), hY6.r (j := 3) (by omega) (by omega), (hY.1.2.1 p hp0).1, hY6.nv, pk_rem (by omega) (by omega) (by omega), ic (n := s % zNv S) (by omega), (hE.1 _ (by omega)).2.1, hY6.bc, nI_leI (a := s) (by omega) (by omega), show (60 : Int32) = nI 60 from rfl, nI_eq (b := 60) (by omega) (by omega)]
  refine ⟨iin (by omega) (by omega), fun h4 => hR _ _ _ (by rw [if_pos (Or.inl h4)]; exact ⟨rfl, hY6.2⟩), fun h4 => ⟨nI_ne0 (by omega) (by omega), i7_of (by omega), fun h5 => ⟨fun h6 => ?_, fun h6 => hR _ _ _ (by rw [if_neg (fun q => q.elim (fun z => h4 z) (fun z => by rw [bz_0.mp h5] at z; exact absurd z (by decide))), if_pos h6]; exact ⟨rfl, hY6.2⟩)⟩, fun h5 => hR _ _ _ (by rw [if_pos (Or.inr (bz_n0.mp h5))]; exact ⟨rfl, hY6.2⟩)⟩⟩
  rw [if_neg (fun q => q.elim (fun z => h4 z) (fun z => by rw [bz_0.mp h5] at z; exact absurd z (by decide))), if_neg h6] at hR
  refine ⟨S, ⟨hY6, ⟨s, hs, rfl⟩, ⟨gS S p, hE, hgw⟩⟩, fun I14 J15 hq => ?_⟩
  obtain ⟨-, hF, hA⟩ := hq
  have hA := hA _ hE hgw
  rw [cN_nI (n := s) (by omega)] at hA
  have hY14 := hY6.g hF.1
  have hle : gE (gS S p) ≤ s / zLn S := by rw [hge]; exact Nat.div_le_div_right (by omega)
  have hG0 : gW (zNv S) (zBc S) (gTo (zNv S) (gS S p) (s / zLn S)) := gTo_W hgw hle (by omega)
  have hGk : ∀ k, k ≤ zPc S → gW (zNv S) (zBc S) (gPre S p s k) := fun k hk => (gFold_W hY.1.2.2.2.1 p s (zNi S) hG0 k (fun i hi => (hY.1.2.2.1 i (by omega)).v (by omega))).1
  have key2 : zFst (gBad S p s) (zPc S) 0 = none → ∀ m k I J, k + m = zPc S → RY (mrow S 5 (zR5 S k)) I → K108 I J (nI k) := by
    intro hn m
    rw [hn] at hR
    induction m with
    | zero =>
      intro k I J hk hRI
      have hk : k = zPc S := by omega
      subst hk
      have b0 : I 0 4 = nI (zBc S) := by rw [hRI.2.2.2.2.1]; exact hY.1.1.2.2.2.2.2.2.1
      have p9 : I 0 9 = S 0 9 := hRI.2.2.2.2.2.1
      have p0 : I 0 9 = nI (zPc S) := by rw [p9]; exact hY.1.1.2.2.2.2.2.2.2.2.2.1
      apply c108
      unfold wp_M_propose_108
      rw [p0, b0, ic (n := zBc S) (by omega)]
      have hin : vp_in (nI (zBc S)) 60 := iin (by omega) (by omega)
      refine ⟨fun _ => ⟨hin, fun I23 e23 => ?_⟩, fun z => absurd (nI_le (Nat.le_refl _) (by omega)) z⟩
      have q23 : I23 0 = I 0 := by rw [e23]; exact mu_other _ _ _ (by omega)
      rw [q23, b0, ic (n := zBc S) (by omega)]
      refine ⟨hin, fun I25 e25 => ?_⟩
      have q25 : I25 0 = I 0 := by rw [e25, mu_other _ _ _ (by omega), q23]
      rw [q25, b0, p9, ic (n := zBc S) (by omega)]
      refine ⟨hin, fun I27 e27 I28 e28 => ?_⟩
      have q27 : I27 0 = I 0 := by rw [e27, mu_other _ _ _ (by omega), q25]
      have q28 : I28 0 4 = nI (zBc S) := by rw [e28, mu_at, if_neg (fun z => absurd z.2 (by omega)), q27]; exact b0
      rw [q28, nI_1]
      intro I29 e29
      have q29 : I29 0 4 = nI (zBc S + 1) := by rw [e29, mu_at, if_pos ⟨rfl, rfl⟩]
      rw [q29, nI_pred]
      refine hR _ _ _ ⟨rfl, ?_⟩
      rw [e29, e28, e27, e25, e23]
      show RY (zAddB S (nI p) (nI s)) _
      exact ((((RY.mu (S := mrow S 5 (zR5 S (zPc S))) hRI _ _ _).mu _ _ _).mu _ _ _).mu _ _ _).mu _ _ _
    | succ m ih =>
      intro k I J hk hRI
      have b0 : I 0 4 = nI (zBc S) := by rw [hRI.2.2.2.2.1]; exact hY.1.1.2.2.2.2.2.2.1
      have p0 : I 0 9 = nI (zPc S) := by rw [hRI.2.2.2.2.2.1]; exact hY.1.1.2.2.2.2.2.2.2.2.2.1
      have r6 : I 6 = S 6 := by rw [hRI.1 6 (by omega) (by omega)]; exact mrow_other _ _ (by omega)
      apply c108
      unfold wp_M_propose_108
      rw [p0, b0, ix4, ic (n := 4 * zBc S + k) (by omega), ic (n := k) (by omega), nI_1 k, r6]
      refine ⟨fun z => absurd z (nI_ge (by omega) (by omega)), fun _ => ⟨iin (by omega) (by omega), iin (by omega) (by omega), fun I32 e32 => ih (k + 1) I32 J (by omega) ?_⟩⟩
      rw [e32, zR5_s]
      exact hRI.mu _ _ _
  have key : ∀ m k I J, k + m = zPc S → YR S I → mE (gPre S p s k) I → zFst (gBad S p s) (zPc S) 0 = zFst (gBad S p s) m k → K72 I J (nI k) := by
    intro m
    induction m with
    | zero =>
      intro k I J hk hYI hEI he
      have hk : k = zPc S := by omega
      subst hk
      apply c72
      unfold wp_M_propose_72
      rw [hYI.pc]
      refine ⟨fun _ => key2 he (zPc S) 0 I J (by omega) (by rw [zR5_0]; exact hYI.2), fun z => absurd (nI_le (Nat.le_refl _) (by omega)) z⟩
    | succ m ih =>
      intro k I J hk hYI hEI he
      have hkk : k < zPc S := by omega
      apply c72
      unfold wp_M_propose_72
      rw [hYI.pc, ic (n := k) (by omega), hYI.r (j := 6) (by omega) (by omega), nI_1 k]
      refine ⟨fun z => absurd z (nI_ge (by omega) (by omega)), fun _ => ⟨iin (by omega) (by omega), S, ⟨hYI, hY.1.2.2.1 k hkk, ⟨p, hp0, rfl⟩, ⟨s, hs, rfl⟩, ⟨gPre S p s k, hEI, hGk k (by omega)⟩⟩, fun r I20 J21 hq => ?_⟩⟩
      obtain ⟨-, hF2, hr, hq⟩ := hq
      have hq := hq _ hEI (hGk k (by omega))
      rw [cN_nI (n := p) (by omega), cN_nI (n := s) (by omega)] at hq
      have hY20 := hYI.g hF2.1
      by_cases hfit : gFit S (gPre S p s k) p s (zNi S k)
      · have hbad : gBad S p s k = false := by
          unfold gBad
          rw [@decide_eq_true _ (Classical.propDecidable _) hfit]
          rfl
        have r1 := hq.2.1 hfit
        refine ⟨fun _ => ih (k + 1) I20 J21 (by omega) hY20 hq.1 (by rw [he, fst_f hbad]), fun z => ?_⟩
        rw [r1] at z
        exact absurd z (by decide)
      · have hbad : gBad S p s k = true := by
          unfold gBad
          rw [@decide_eq_false _ (Classical.propDecidable _) hfit]
          rfl
        have r1 := hq.2.2 hfit
        refine ⟨fun z => absurd r1 z, fun _ => ?_⟩
        rw [he, fst_t hbad] at hR
        exact hR _ _ _ ⟨rfl, hY20.2⟩
  exact key (zPc S) 0 I14 J15 (by omega) hY14 hA rfl
set_option maxHeartbeats 4000000 in
set_option maxRecDepth 100000 in
theorem C_M_propose (l : Launch) (D : va_G) (ca : Nat → Nat) (ad : Nat → Nat) (S : mI) (I0 : mI) (J0 : mJ) (a1 : Int32) (a2 : Int32)  (hp : pY2 S I0 J0 a1 a2) : Met l yM_propose wM_propose ({ frames := 4, cells := 0, slots := 0, locals := 98 } : Room) (va_Pc [.ref (ad 0), .int a1, .int a2] (mPre D vwCl (xty ca) 23 ad (ymk ca ad) nL I0 J0)) (mQi D vwCl 23 ad (ymk ca ad) (qM_propose S I0 J0 a1 a2)) 0 0 (mA 23 ad) := by
  refine Met.ofW (cc := cM_propose) (maxL := 4) (ret := (some .int)) (by decide) rfl ?_
  intro p e s m args below meth c s₁ B hml hv
  obtain ⟨rfl, hP, hK, hD0, hN⟩ := hv
  have hx := B.exec
  have hb := B.bytes
  have hr := B.returns
  have htb : ∀ w ∈ wb, w.before _ s = true := fun w h => atoms_spec (ws := wM_propose) B.pre w (List.mem_cons_of_mem _ h)
  have hown : s.vm.findClass RM = some m.cls := findClass_of_methodNamed B.named
  have hlk := B.notSynchronized
  have hD := mw_Dm hD0
  have hS : va_S (mA 23 ad) s.heap s.heap [] := va_S.rf
  have hl := lv_entry ([.ref (ad 0), .int a1, .int a2]) (n := 4) (Nat.le_of_ble_eq_true rfl)
  rw [lg_entry_eq]
  generalize (lg_sl ([.ref (ad 0), .int a1, .int a2]) ++ List.replicate (4 - (lg_sl ([.ref (ad 0), .int a1, .int a2])).length) Slot.unset).toArray = ls at hl ⊢
  have hl : lv_has ls 4 [(0, .ref (ad 0)), (1, .int a1), (2, .int a2)] := hl
  obtain ⟨K72, hK72⟩ : ∃ K : mI → mJ → Int32 → Prop, K = (fun I J x3 => ∀ (H : Heap) (locs : List Loc) (ls : Array Slot), va_P D vwCl (mw 23 ad (ymk ca ad) I J) H → va_S (mA 23 ad) s.heap H locs → lv_has ls 4 [(0, .ref (ad 0)), (1, .int a1), (2, .int a2), (3, .int x3)] → W p l e (headSpec wM_propose ({ frames := 4, cells := 0, slots := 0, locals := 98 } : Room)).room s m (([.ref (ad 0), .int a1, .int a2] : List Value).toArray) below meth c H locs 0 0 (MQ below (mQi D vwCl 23 ad (ymk ca ad) (qM_propose S I0 J0 a1 a2)) (([.ref (ad 0), .int a1, .int a2] : List Value).toArray) s 0 0 (mA 23 ad)) (F0 m 72 ls [])) := ⟨_, rfl⟩
  obtain ⟨K108, hK108⟩ : ∃ K : mI → mJ → Int32 → Prop, K = (fun I J x3 => ∀ (H : Heap) (locs : List Loc) (ls : Array Slot), va_P D vwCl (mw 23 ad (ymk ca ad) I J) H → va_S (mA 23 ad) s.heap H locs → lv_has ls 4 [(0, .ref (ad 0)), (1, .int a1), (2, .int a2), (3, .int x3)] → W p l e (headSpec wM_propose ({ frames := 4, cells := 0, slots := 0, locals := 98 } : Room)).room s m (([.ref (ad 0), .int a1, .int a2] : List Value).toArray) below meth c H locs 0 0 (MQ below (mQi D vwCl 23 ad (ymk ca ad) (qM_propose S I0 J0 a1 a2)) (([.ref (ad 0), .int a1, .int a2] : List Value).toArray) s 0 0 (mA 23 ad)) (F0 m 108 ls [])) := ⟨_, rfl⟩
  have c72 : ∀ (I : mI) (J : mJ) (x3 : Int32), wp_M_propose_72 K72 K108 (qM_propose S I0 J0 a1 a2) I J a1 a2 x3 → K72 I J x3 := by
    intro I J x3 h
    rw [hK72]
    intro H locs ls hP hS hl
    unfold wp_M_propose_72 at h
    refine lv_iload_n hx hb dM_propose_72 rfl (lv_at hl 3 rfl) ?_
    refine lv_aload_n hx hb dM_propose_73 rfl (lv_at hl 0 rfl) ?_
    refine va_get (D := D) (ci := 6) (v := .int (I 0 9)) (C := RM) (T := TM) (N := 33) hx hb htb inM hown hK hP 0 (mw_at (by decide) (ym_0 _ _ _ _)) rfl 9 (by decide) (htb _ k2_181) (fun _ h9 => h9) rfl dM_propose_74 ?_
    refine lv_icmp_ge (tgt := 106) hx hb dM_propose_77 (by decide) (fun hc => ?_) (fun hc => ?_)
    · have h := h.1 hc
      refine lv_iconst (v := 0) hx hb dM_propose_106 (by decide) ?_
      refine lv_istore_n (lv' := [(3, .int 0), (0, .ref (ad 0)), (1, .int a1), (2, .int a2)]) hx hb dM_propose_107 rfl hl (by decide) rfl (fun ls hl => ?_)
      rw [hK108] at h
      exact h _ _ _ hP hS (lv_sub hl [1, 2, 3, 0] rfl)
    · have h := h.2 hc
      refine lv_aload_n hx hb dM_propose_80 rfl (lv_at hl 0 rfl) ?_
      refine lv_aload_n hx hb dM_propose_81 rfl (lv_at hl 0 rfl) ?_
      refine va_get (D := D) (ci := 6) (v := .ref (ad 6)) (C := RM) (T := TM) (N := 33) hx hb htb inM hown hK hP 0 (mw_at (by decide) (ym_0 _ _ _ _)) rfl 10 (by decide) (htb _ k2_182) (fun _ h9 => h9) rfl dM_propose_82 ?_
      refine lv_iload_n hx hb dM_propose_85 rfl (lv_at hl 3 rfl) ?_
      obtain ⟨hn16, h⟩ := h
      refine mr_iald hx hb hK hP 6 0 (by decide) rfl rfl hn16 dM_propose_86 ?_
      refine lv_iload_n hx hb dM_propose_87 rfl (lv_at hl 1 rfl) ?_
      refine lv_iload_n hx hb dM_propose_88 rfl (lv_at hl 2 rfl) ?_
      obtain ⟨S17, h⟩ := h
      obtain ⟨hp18, h⟩ := h
      refine mc_i (va_runV (As := [.int (I 6 x3.toNatClampNeg), .int a1, .int a2]) (rest := []) ⟨hx, hb, hml, hown, htb⟩ (C_M_item l D ca ad S17 I J (I 6 x3.toNatClampNeg) a1 a2 hp18) (cwV 3 htb (gd_v k3_63 k3_65 ks25 k1_8 k3_66) rfl rfl rfl (by decide +kernel) ⟨Nat.le_of_ble_eq_true rfl, Nat.le_of_ble_eq_true rfl⟩) (mPre_V hK hP hD hN rfl (mw_at (by decide) (ym_0 _ _ _ _))) rfl rfl hl.1 rfl (lv_room (Nat.le_of_ble_eq_true rfl)) dM_propose_89 ⟨Nat.le_of_ble_eq_true rfl, Nat.le_of_ble_eq_true rfl⟩) hS (fun r19 I20 J21 H locs hpost hP hS => ?_)
      have h := h r19 I20 J21 hpost
      refine lv_if_ne (tgt := 100) hx hb dM_propose_92 (by decide) (fun hc => ?_) (fun hc => ?_)
      · have h := h.1 hc
        refine lv_iinc (k := 3) (v := x3 + 1) (lv' := [(3, .int (x3 + 1)), (0, .ref (ad 0)), (1, .int a1), (2, .int a2)]) hx hb dM_propose_100 hl rfl (by rfl) (by decide) rfl (fun ls hl => ?_)
        refine lv_goto (tgt := 72) hx hb dM_propose_103 (by decide) ?_
        rw [hK72] at h
        exact h _ _ _ hP hS (lv_sub hl [1, 2, 3, 0] rfl)
      · have h := h.2 hc
        refine lv_bipush (v := (-10)) hx hb dM_propose_95 (by decide) ?_
        refine lv_iload_n hx hb dM_propose_97 rfl (lv_at hl 3 rfl) ?_
        refine lv_isub hx hb dM_propose_98 ?_
        exact me_i hx hb hr hlk hP hS h dM_propose_99
  have c108 : ∀ (I : mI) (J : mJ) (x3 : Int32), wp_M_propose_108 K72 K108 (qM_propose S I0 J0 a1 a2) I J a1 a2 x3 → K108 I J x3 := by
    intro I J x3 h
    rw [hK108]
    intro H locs ls hP hS hl
    unfold wp_M_propose_108 at h
    refine lv_iload_n hx hb dM_propose_108 rfl (lv_at hl 3 rfl) ?_
    refine lv_aload_n hx hb dM_propose_109 rfl (lv_at hl 0 rfl) ?_
    refine va_get (D := D) (ci := 6) (v := .int (I 0 9)) (C := RM) (T := TM) (N := 33) hx hb htb inM hown hK hP 0 (mw_at (by decide) (ym_0 _ _ _ _)) rfl 9 (by decide) (htb _ k2_181) (fun _ h9 => h9) rfl dM_propose_110 ?_
    refine lv_icmp_ge (tgt := 141) hx hb dM_propose_113 (by decide) (fun hc => ?_) (fun hc => ?_)
    · have h := h.1 hc
      refine lv_aload_n hx hb dM_propose_141 rfl (lv_at hl 0 rfl) ?_
      refine va_get (D := D) (ci := 6) (v := .ref (ad 2)) (C := RM) (T := TM) (N := 33) hx hb htb inM hown hK hP 0 (mw_at (by decide) (ym_0 _ _ _ _)) rfl 5 (by decide) (htb _ k2_177) (fun _ h9 => h9) rfl dM_propose_142 ?_
      refine lv_aload_n hx hb dM_propose_145 rfl (lv_at hl 0 rfl) ?_
      refine va_get (D := D) (ci := 6) (v := .int (I 0 4)) (C := RM) (T := TM) (N := 33) hx hb htb inM hown hK hP 0 (mw_at (by decide) (ym_0 _ _ _ _)) rfl 4 (by decide) (htb _ k2_176) (fun _ h9 => h9) rfl dM_propose_146 ?_
      refine lv_iload_n hx hb dM_propose_149 rfl (lv_at hl 1 rfl) ?_
      obtain ⟨hn22, h⟩ := h
      refine mr_iast hx hb hK hP hD hS 2 0 (by decide) (fun _ => rfl) rfl hn22 dM_propose_150 (fun H locs hP hS => ?_)
      generalize heI23 : mu I 2 (I 0 4).toNatClampNeg a1 = I23 at hP
      have h := h I23 heI23.symm
      refine lv_aload_n hx hb dM_propose_151 rfl (lv_at hl 0 rfl) ?_
      refine va_get (D := D) (ci := 6) (v := .ref (ad 3)) (C := RM) (T := TM) (N := 33) hx hb htb inM hown hK hP 0 (mw_at (by decide) (ym_0 _ _ _ _)) rfl 6 (by decide) (htb _ k2_178) (fun _ h9 => h9) rfl dM_propose_152 ?_
      refine lv_aload_n hx hb dM_propose_155 rfl (lv_at hl 0 rfl) ?_
      refine va_get (D := D) (ci := 6) (v := .int (I23 0 4)) (C := RM) (T := TM) (N := 33) hx hb htb inM hown hK hP 0 (mw_at (by decide) (ym_0 _ _ _ _)) rfl 4 (by decide) (htb _ k2_176) (fun _ h9 => h9) rfl dM_propose_156 ?_
      refine lv_iload_n hx hb dM_propose_159 rfl (lv_at hl 2 rfl) ?_
      obtain ⟨hn24, h⟩ := h
      refine mr_iast hx hb hK hP hD hS 3 0 (by decide) (fun _ => rfl) rfl hn24 dM_propose_160 (fun H locs hP hS => ?_)
      generalize heI25 : mu I23 3 (I23 0 4).toNatClampNeg a2 = I25 at hP
      have h := h I25 heI25.symm
      refine lv_aload_n hx hb dM_propose_161 rfl (lv_at hl 0 rfl) ?_
      refine va_get (D := D) (ci := 6) (v := .ref (ad 4)) (C := RM) (T := TM) (N := 33) hx hb htb inM hown hK hP 0 (mw_at (by decide) (ym_0 _ _ _ _)) rfl 7 (by decide) (htb _ k2_179) (fun _ h9 => h9) rfl dM_propose_162 ?_
      refine lv_aload_n hx hb dM_propose_165 rfl (lv_at hl 0 rfl) ?_
      refine va_get (D := D) (ci := 6) (v := .int (I25 0 4)) (C := RM) (T := TM) (N := 33) hx hb htb inM hown hK hP 0 (mw_at (by decide) (ym_0 _ _ _ _)) rfl 4 (by decide) (htb _ k2_176) (fun _ h9 => h9) rfl dM_propose_166 ?_
      refine lv_aload_n hx hb dM_propose_169 rfl (lv_at hl 0 rfl) ?_
      refine va_get (D := D) (ci := 6) (v := .int (I25 0 9)) (C := RM) (T := TM) (N := 33) hx hb htb inM hown hK hP 0 (mw_at (by decide) (ym_0 _ _ _ _)) rfl 9 (by decide) (htb _ k2_181) (fun _ h9 => h9) rfl dM_propose_170 ?_
      obtain ⟨hn26, h⟩ := h
      refine mr_iast hx hb hK hP hD hS 4 0 (by decide) (fun _ => rfl) rfl hn26 dM_propose_173 (fun H locs hP hS => ?_)
      generalize heI27 : mu I25 4 (I25 0 4).toNatClampNeg (I25 0 9) = I27 at hP
      have h := h I27 heI27.symm
      refine lv_aload_n hx hb dM_propose_174 rfl (lv_at hl 0 rfl) ?_
      refine lv_iconst (v := 0) hx hb dM_propose_175 (by decide) ?_
      refine mr_puti hx hb htb inM tyM tyM_ok nmM hown hK hP hD hS 0 (by decide) (ym_0 _ _ _ _) rfl 9 (by decide) (htb _ k2_181) (fun _ h9 => h9) rfl (by decide +kernel) (Nat.le_of_ble_eq_true rfl) (ym_p9 _ _ _ _ _) dM_propose_176 (fun H locs hP hS => ?_)
      generalize heI28 : mu I27 0 9 0 = I28 at hP
      have h := h I28 heI28.symm
      refine lv_aload_n hx hb dM_propose_179 rfl (lv_at hl 0 rfl) ?_
      refine lv_dup hx hb dM_propose_180 rfl ?_
      refine va_get (D := D) (ci := 6) (v := .int (I28 0 4)) (C := RM) (T := TM) (N := 33) hx hb htb inM hown hK hP 0 (mw_at (by decide) (ym_0 _ _ _ _)) rfl 4 (by decide) (htb _ k2_176) (fun _ h9 => h9) rfl dM_propose_181 ?_
      refine lv_iconst (v := 1) hx hb dM_propose_184 (by decide) ?_
      refine lv_iadd hx hb dM_propose_185 ?_
      refine mr_puti hx hb htb inM tyM tyM_ok nmM hown hK hP hD hS 0 (by decide) (ym_0 _ _ _ _) rfl 4 (by decide) (htb _ k2_176) (fun _ h9 => h9) rfl (by decide +kernel) (Nat.le_of_ble_eq_true rfl) (ym_p4 _ _ _ _ _) dM_propose_186 (fun H locs hP hS => ?_)
      generalize heI29 : mu I28 0 4 ((I28 0 4) + 1) = I29 at hP
      have h := h I29 heI29.symm
      refine lv_aload_n hx hb dM_propose_189 rfl (lv_at hl 0 rfl) ?_
      refine va_get (D := D) (ci := 6) (v := .int (I29 0 4)) (C := RM) (T := TM) (N := 33) hx hb htb inM hown hK hP 0 (mw_at (by decide) (ym_0 _ _ _ _)) rfl 4 (by decide) (htb _ k2_176) (fun _ h9 => h9) rfl dM_propose_190 ?_
      refine lv_iconst (v := 1) hx hb dM_propose_193 (by decide) ?_
      refine lv_isub hx hb dM_propose_194 ?_
      exact me_i hx hb hr hlk hP hS h dM_propose_195
    · have h := h.2 hc
      refine lv_aload_n hx hb dM_propose_116 rfl (lv_at hl 0 rfl) ?_
      refine va_get (D := D) (ci := 6) (v := .ref (ad 5)) (C := RM) (T := TM) (N := 33) hx hb htb inM hown hK hP 0 (mw_at (by decide) (ym_0 _ _ _ _)) rfl 8 (by decide) (htb _ k2_180) (fun _ h9 => h9) rfl dM_propose_117 ?_
      refine lv_iconst (v := 4) hx hb dM_propose_120 (by decide) ?_
      refine lv_aload_n hx hb dM_propose_121 rfl (lv_at hl 0 rfl) ?_
      refine va_get (D := D) (ci := 6) (v := .int (I 0 4)) (C := RM) (T := TM) (N := 33) hx hb htb inM hown hK hP 0 (mw_at (by decide) (ym_0 _ _ _ _)) rfl 4 (by decide) (htb _ k2_176) (fun _ h9 => h9) rfl dM_propose_122 ?_
      refine lv_imul hx hb dM_propose_125 ?_
      refine lv_iload_n hx hb dM_propose_126 rfl (lv_at hl 3 rfl) ?_
      refine lv_iadd hx hb dM_propose_127 ?_
      refine lv_aload_n hx hb dM_propose_128 rfl (lv_at hl 0 rfl) ?_
      refine va_get (D := D) (ci := 6) (v := .ref (ad 6)) (C := RM) (T := TM) (N := 33) hx hb htb inM hown hK hP 0 (mw_at (by decide) (ym_0 _ _ _ _)) rfl 10 (by decide) (htb _ k2_182) (fun _ h9 => h9) rfl dM_propose_129 ?_
      refine lv_iload_n hx hb dM_propose_132 rfl (lv_at hl 3 rfl) ?_
      obtain ⟨hn30, h⟩ := h
      refine mr_iald hx hb hK hP 6 0 (by decide) rfl rfl hn30 dM_propose_133 ?_
      obtain ⟨hn31, h⟩ := h
      refine mr_iast hx hb hK hP hD hS 5 0 (by decide) (fun _ => rfl) rfl hn31 dM_propose_134 (fun H locs hP hS => ?_)
      generalize heI32 : mu I 5 ((4 * (I 0 4)) + x3).toNatClampNeg (I 6 x3.toNatClampNeg) = I32 at hP
      have h := h I32 heI32.symm
      refine lv_iinc (k := 3) (v := x3 + 1) (lv' := [(3, .int (x3 + 1)), (0, .ref (ad 0)), (1, .int a1), (2, .int a2)]) hx hb dM_propose_135 hl rfl (by rfl) (by decide) rfl (fun ls hl => ?_)
      refine lv_goto (tgt := 108) hx hb dM_propose_138 (by decide) ?_
      rw [hK108] at h
      exact h _ _ _ hP hS (lv_sub hl [1, 2, 3, 0] rfl)
  have h := P_M_propose S I0 J0 a1 a2  hp K72 K108 (qM_propose S I0 J0 a1 a2) c72 c108 (fun _ _ _ h => h)
  unfold wp_M_propose at h
  refine lv_aload_n hx hb dM_propose_0 rfl (lv_at hl 0 rfl) ?_
  refine lv_iload_n hx hb dM_propose_1 rfl (lv_at hl 1 rfl) ?_
  refine mc_r (va_runV (As := [.int a1]) (rest := []) ⟨hx, hb, hml, hown, htb⟩ (C_M_isBlock l D ca ad I0 J0 a1) (cwV 1 htb (gd_v k3_40 k3_42 ks20 k1_8 k3_43) rfl rfl rfl (by decide +kernel) ⟨Nat.le_of_ble_eq_true rfl, Nat.le_of_ble_eq_true rfl⟩) (mPre_V hK hP hD hN rfl (mw_at (by decide) (ym_0 _ _ _ _))) rfl rfl hl.1 rfl (lv_room (Nat.le_of_ble_eq_true rfl)) dM_propose_2 ⟨Nat.le_of_ble_eq_true rfl, Nat.le_of_ble_eq_true rfl⟩) hS (fun H locs hP hS => ?_)
  refine lv_if_eq (tgt := 19) hx hb dM_propose_5 (by decide) (fun hc => ?_) (fun hc => ?_)
  · have h := h.1 hc
    refine lv_iconst (v := (-1)) hx hb dM_propose_19 (by decide) ?_
    exact me_i hx hb hr hlk hP hS h dM_propose_20
  · have h := h.2 hc
    refine lv_iload_n hx hb dM_propose_8 rfl (lv_at hl 2 rfl) ?_
    refine lv_iconst (v := 1) hx hb dM_propose_9 (by decide) ?_
    refine lv_sipush (v := 240) hx hb dM_propose_10 (by decide) ?_
    refine mc_r (va_runS (As := [.int a2, .int 1, .int 240]) (rest := []) ⟨hx, hb, hml, hown, htb⟩ (C_M_outside l D ca ad I0 J0 a2 1 240) (va_cwS 3 htb (gd_s k3_44 k3_45 k1_8 k3_46) rfl rfl rfl (by decide +kernel) ⟨Nat.le_of_ble_eq_true rfl, Nat.le_of_ble_eq_true rfl⟩) (mPre_S hK hP hD hN) rfl rfl hl.1 rfl (lv_room (Nat.le_of_ble_eq_true rfl)) dM_propose_13 ⟨Nat.le_of_ble_eq_true rfl, Nat.le_of_ble_eq_true rfl⟩) hS (fun H locs hP hS => ?_)
    refine lv_if_eq (tgt := 21) hx hb dM_propose_16 (by decide) (fun hc => ?_) (fun hc => ?_)
    · have h := h.1 hc
      refine lv_aload_n hx hb dM_propose_21 rfl (lv_at hl 0 rfl) ?_
      refine lv_iload_n hx hb dM_propose_22 rfl (lv_at hl 1 rfl) ?_
      obtain ⟨S3, h⟩ := h
      obtain ⟨hp4, h⟩ := h
      refine mc_v (va_runV (As := [.int a1]) (rest := []) ⟨hx, hb, hml, hown, htb⟩ (C_M_make l D ca ad S3 I0 J0 a1 hp4) (cwV 1 htb (gd_v k3_47 k3_49 ks21 k1_8 k3_50) rfl rfl rfl (by decide +kernel) ⟨Nat.le_of_ble_eq_true rfl, Nat.le_of_ble_eq_true rfl⟩) (mPre_V hK hP hD hN rfl (mw_at (by decide) (ym_0 _ _ _ _))) rfl rfl hl.1 rfl (lv_room (Nat.le_of_ble_eq_true rfl)) dM_propose_23 ⟨Nat.le_of_ble_eq_true rfl, Nat.le_of_ble_eq_true rfl⟩) hS (fun I6 J7 H locs hpost hP hS => ?_)
      have h := h I6 J7 hpost
      refine lv_iload_n hx hb dM_propose_26 rfl (lv_at hl 2 rfl) ?_
      refine lv_aload_n hx hb dM_propose_27 rfl (lv_at hl 0 rfl) ?_
      refine va_get (D := D) (ci := 6) (v := .ref (ad 3)) (C := RM) (T := TM) (N := 33) hx hb htb inM hown hK hP 0 (mw_at (by decide) (ym_0 _ _ _ _)) rfl 6 (by decide) (htb _ k2_178) (fun _ h9 => h9) rfl dM_propose_28 ?_
      refine lv_iload_n hx hb dM_propose_31 rfl (lv_at hl 1 rfl) ?_
      obtain ⟨hn8, h⟩ := h
      refine mr_iald hx hb hK hP 3 0 (by decide) rfl rfl hn8 dM_propose_32 ?_
      refine lv_icmp_le (tgt := 50) hx hb dM_propose_33 (by decide) (fun hc => ?_) (fun hc => ?_)
      · have h := h.1 hc
        refine lv_bipush (v := (-3)) hx hb dM_propose_50 (by decide) ?_
        exact me_i hx hb hr hlk hP hS h dM_propose_52
      · have h := h.2 hc
        refine lv_aload_n hx hb dM_propose_36 rfl (lv_at hl 0 rfl) ?_
        refine va_get (D := D) (ci := 6) (v := .ref (ad 19)) (C := RM) (T := TM) (N := 33) hx hb htb inM hown hK hP 0 (mw_at (by decide) (ym_0 _ _ _ _)) rfl 25 (by decide) (htb _ k2_197) (fun _ h9 => h9) rfl dM_propose_37 ?_
        refine lv_iload_n hx hb dM_propose_40 rfl (lv_at hl 2 rfl) ?_
        refine lv_aload_n hx hb dM_propose_41 rfl (lv_at hl 0 rfl) ?_
        refine va_get (D := D) (ci := 6) (v := .int (I6 0 0)) (C := RM) (T := TM) (N := 33) hx hb htb inM hown hK hP 0 (mw_at (by decide) (ym_0 _ _ _ _)) rfl 0 (by decide) (htb _ k2_172) (fun _ h9 => h9) rfl dM_propose_42 ?_
        obtain ⟨hz9, h⟩ := h
        refine lv_irem hx hb dM_propose_45 hz9 ?_
        obtain ⟨hn10, h⟩ := h
        refine mr_zald hx hb hK hP 19 1 (by decide) rfl rfl hn10 dM_propose_46 ?_
        refine lv_if_eq (tgt := 53) hx hb dM_propose_47 (by decide) (fun hc => ?_) (fun hc => ?_)
        · have h := h.1 hc
          refine lv_aload_n hx hb dM_propose_53 rfl (lv_at hl 0 rfl) ?_
          refine va_get (D := D) (ci := 6) (v := .int (I6 0 4)) (C := RM) (T := TM) (N := 33) hx hb htb inM hown hK hP 0 (mw_at (by decide) (ym_0 _ _ _ _)) rfl 4 (by decide) (htb _ k2_176) (fun _ h9 => h9) rfl dM_propose_54 ?_
          refine lv_bipush (v := 60) hx hb dM_propose_57 (by decide) ?_
          refine lv_icmp_ne (tgt := 65) hx hb dM_propose_59 (by decide) (fun hc => ?_) (fun hc => ?_)
          · have h := h.1 hc
            refine lv_aload_n hx hb dM_propose_65 rfl (lv_at hl 0 rfl) ?_
            refine lv_iload_n hx hb dM_propose_66 rfl (lv_at hl 2 rfl) ?_
            obtain ⟨S11, h⟩ := h
            obtain ⟨hp12, h⟩ := h
            refine mc_v (va_runV (As := [.int a2]) (rest := []) ⟨hx, hb, hml, hown, htb⟩ (C_M_advance l D ca ad S11 I6 J7 a2 hp12) (cwV 1 htb (gd_v k3_59 k3_61 ks24 k1_8 k3_62) rfl rfl rfl (by decide +kernel) ⟨Nat.le_of_ble_eq_true rfl, Nat.le_of_ble_eq_true rfl⟩) (mPre_V hK hP hD hN rfl (mw_at (by decide) (ym_0 _ _ _ _))) rfl rfl hl.1 rfl (lv_room (Nat.le_of_ble_eq_true rfl)) dM_propose_67 ⟨Nat.le_of_ble_eq_true rfl, Nat.le_of_ble_eq_true rfl⟩) hS (fun I14 J15 H locs hpost hP hS => ?_)
            have h := h I14 J15 hpost
            refine lv_iconst (v := 0) hx hb dM_propose_70 (by decide) ?_
            refine lv_istore_n (lv' := [(3, .int 0), (0, .ref (ad 0)), (1, .int a1), (2, .int a2)]) hx hb dM_propose_71 rfl hl (by decide) rfl (fun ls hl => ?_)
            rw [hK72] at h
            exact h _ _ _ hP hS (lv_sub hl [1, 2, 3, 0] rfl)
          · have h := h.2 hc
            refine lv_bipush (v := (-2)) hx hb dM_propose_62 (by decide) ?_
            exact me_i hx hb hr hlk hP hS h dM_propose_64
        · have h := h.2 hc
          refine lv_bipush (v := (-3)) hx hb dM_propose_50 (by decide) ?_
          exact me_i hx hb hr hlk hP hS h dM_propose_52
    · have h := h.2 hc
      refine lv_iconst (v := (-1)) hx hb dM_propose_19 (by decide) ?_
      exact me_i hx hb hr hlk hP hS h dM_propose_20
def wp_M_hearAll_2 (K2 : mI → mJ → Int32 → Prop) (R : mI → mJ → Prop) (I : mI) (J : mJ) (a1 : Int32) (a2 : Int32) (x3 : Int32) : Prop :=
  (vp_in a2 60 ∧ (((I 4 a2.toNatClampNeg) ≤ x3 → R I J) ∧ (¬ ((I 4 a2.toNatClampNeg) ≤ x3) → (vp_in ((4 * a2) + x3) 240 ∧ (vp_in ((80 * a1) + ((I 5 ((4 * a2) + x3).toNatClampNeg) - (I 5 ((4 * a2) + x3).toNatClampNeg) / 100 * 100)) 240 ∧ (∀ (I4 : mI), I4 = mu I 15 ((80 * a1) + ((I 5 ((4 * a2) + x3).toNatClampNeg) - (I 5 ((4 * a2) + x3).toNatClampNeg) / 100 * 100)).toNatClampNeg (vp_nar .boolean 1) → (((I 5 ((4 * a2) + x3).toNatClampNeg) < 100 → K2 I4 J (x3 + 1)) ∧ (¬ ((I 5 ((4 * a2) + x3).toNatClampNeg) < 100) → (vp_in (((80 * a1) + ((I 5 ((4 * a2) + x3).toNatClampNeg) / 100)) - 1) 240 ∧ (∀ (I6 : mI), I6 = mu I4 15 (((80 * a1) + ((I 5 ((4 * a2) + x3).toNatClampNeg) / 100)) - 1).toNatClampNeg (vp_nar .boolean 1) → K2 I6 J (x3 + 1)))))))))))
def wp_M_hearAll (K2 : mI → mJ → Int32 → Prop) (R : mI → mJ → Prop) (I0 : mI) (J0 : mJ) (a1 : Int32) (a2 : Int32) : Prop :=
  K2 I0 J0 0
theorem P_M_hearAll (S : mI) (I0 : mI) (J0 : mJ) (a1 : Int32) (a2 : Int32)  (hp : pM_hearAll S I0 J0 a1 a2) (K2 : mI → mJ → Int32 → Prop) (R : mI → mJ → Prop) (c2 : ∀ (I : mI) (J : mJ) (x3 : Int32), wp_M_hearAll_2 K2 R I J a1 a2 x3 → K2 I J x3) (hR : ∀ (I' : mI) (J' : mJ), qM_hearAll S I0 J0 a1 a2 I' J' → R I' J') : wp_M_hearAll K2 R I0 J0 a1 a2 := by
  obtain ⟨hY, ⟨n, hn, rfl⟩, ⟨b, hb0, rfl⟩⟩ := hp
  have hb := hY.1.b
  unfold qM_hearAll at hR
  rw [cN_nI (n := n) (by omega), cN_nI (n := b) (by omega)] at hR
  have hB := hY.1.2.1 b hb0
  have hic := hB.2.2.2.1
  have key : ∀ m k I J, k + m = zIc S b → RY (zItems S n b k) I → K2 I J (nI k) := by
    intro m
    induction m with
    | zero =>
      intro k I J hk hRI
      have hk : k = zIc S b := by omega
      subst hk
      have r4 : I 4 = S 4 := by rw [hRI.1 4 (by omega) (by omega)]; exact zItems_row _ _ _ _ (by omega)
      apply c2
      unfold wp_M_hearAll_2
      rw [ic (n := b) (by omega), r4, hB.2.2.1]
      exact ⟨iin (by omega) (by omega), fun _ => hR _ _ hRI, fun z => absurd (nI_le (Nat.le_refl _) (by omega)) z⟩
    | succ m ih =>
      intro k I J hk hRI
      have r4 : I 4 = S 4 := by rw [hRI.1 4 (by omega) (by omega)]; exact zItems_row _ _ _ _ (by omega)
      have r5 : I 5 = S 5 := by rw [hRI.1 5 (by omega) (by omega)]; exact zItems_row _ _ _ _ (by omega)
      have wi := hB.2.2.2.2.2.2 k (by omega)
      have hx : S 5 (4 * b + k) = nI (zIt S b k) := wi.1
      have hX : zIt S b k < zVc S ∨ ∃ o t, o < zVc S ∧ t < zVc S ∧ zIt S b k = o + 100 * (t + 1) := wi.2
      have hi := fun I' => ih (k + 1) I' J (by omega)
      simp only [zItems] at hi
      generalize zIt S b k = x at hx hX hi
      have hxl : x < 10000 ∧ x % 100 < zVc S ∧ (100 ≤ x → x / 100 - 1 < zVc S) := by
        rcases hX with z | ⟨o, t, ho, ht, e⟩
        · exact ⟨by omega, by omega, fun _ => by omega⟩
        · exact ⟨by omega, by omega, fun _ => by omega⟩
      have e1 : nI x - nI x / 100 * 100 = nI (x % 100) := pk_rem (a := x) (d := 100) (by omega) (by omega) (by omega)
      have e2 : nI x / 100 = nI (x / 100) := pk_div (a := x) (d := 100) (by omega) (by omega) (by omega)
      apply c2
      unfold wp_M_hearAll_2
      rw [ic (n := b) (by omega), r4, hB.2.2.1, ix4, ic (n := 4 * b + k) (by omega), r5, hx, e1, e2, ix80, ix80, ic (n := 80 * n + x % 100) (by omega), nI_1 k, nar_1, show (100 : Int32) = nI 100 from rfl, nI_ltI (a := x) (by omega) (by omega)]
      refine ⟨iin (by omega) (by omega), fun z => absurd z (nI_ge (by omega) (by omega)), fun _ => ⟨iin (by omega) (by omega), iin (by omega) (by omega), fun I4 e4 => ⟨fun z => hi I4 ?_, fun z => ?_⟩⟩⟩
      · unfold zItem zHear
        rw [if_pos z, e4, show x % 100 = x from by omega]
        exact hRI.mu _ _ _
      · have e3 : nI (80 * n + x / 100) - 1 = nI (80 * n + (x / 100 - 1)) := by
          rw [show 80 * n + x / 100 = 80 * n + (x / 100 - 1) + 1 from by omega, nI_pred]
        rw [e3, ic (n := 80 * n + (x / 100 - 1)) (by omega)]
        refine ⟨iin (by omega) (by omega), fun I6 e6 => hi I6 ?_⟩
        unfold zItem zHear
        rw [if_neg z, e6, e4]
        exact (hRI.mu _ _ _).mu _ _ _
  exact key (zIc S b) 0 I0 J0 (by omega) hY.2
set_option maxHeartbeats 4000000 in
set_option maxRecDepth 100000 in
theorem C_M_hearAll (l : Launch) (D : va_G) (ca : Nat → Nat) (ad : Nat → Nat) (S : mI) (I0 : mI) (J0 : mJ) (a1 : Int32) (a2 : Int32)  (hp : pM_hearAll S I0 J0 a1 a2) : Met l yM_hearAll wM_hearAll ({ frames := 0, cells := 0, slots := 0, locals := 0 } : Room) (va_Pc [.ref (ad 0), .int a1, .int a2] (mPre D vwCl (xty ca) 23 ad (ymk ca ad) nL I0 J0)) (mQv D vwCl 23 ad (ymk ca ad) (qM_hearAll S I0 J0 a1 a2)) 0 0 (mA 23 ad) := by
  refine Met.ofW (cc := cM_hearAll) (maxL := 5) (ret := none) (by decide) rfl ?_
  intro p e s m args below meth c s₁ B hml hv
  obtain ⟨rfl, hP, hK, hD0, hN⟩ := hv
  have hx := B.exec
  have hb := B.bytes
  have hr := B.returns
  have htb : ∀ w ∈ wb, w.before _ s = true := fun w h => atoms_spec (ws := wM_hearAll) B.pre w (List.mem_cons_of_mem _ h)
  have hown : s.vm.findClass RM = some m.cls := findClass_of_methodNamed B.named
  have hlk := B.notSynchronized
  have hD := mw_Dm hD0
  have hS : va_S (mA 23 ad) s.heap s.heap [] := va_S.rf
  have hl := lv_entry ([.ref (ad 0), .int a1, .int a2]) (n := 5) (Nat.le_of_ble_eq_true rfl)
  rw [lg_entry_eq]
  generalize (lg_sl ([.ref (ad 0), .int a1, .int a2]) ++ List.replicate (5 - (lg_sl ([.ref (ad 0), .int a1, .int a2])).length) Slot.unset).toArray = ls at hl ⊢
  have hl : lv_has ls 5 [(0, .ref (ad 0)), (1, .int a1), (2, .int a2)] := hl
  obtain ⟨K2, hK2⟩ : ∃ K : mI → mJ → Int32 → Prop, K = (fun I J x3 => ∀ (H : Heap) (locs : List Loc) (ls : Array Slot), va_P D vwCl (mw 23 ad (ymk ca ad) I J) H → va_S (mA 23 ad) s.heap H locs → lv_has ls 5 [(0, .ref (ad 0)), (1, .int a1), (2, .int a2), (3, .int x3)] → W p l e (headSpec wM_hearAll ({ frames := 0, cells := 0, slots := 0, locals := 0 } : Room)).room s m (([.ref (ad 0), .int a1, .int a2] : List Value).toArray) below meth c H locs 0 0 (MQ below (mQv D vwCl 23 ad (ymk ca ad) (qM_hearAll S I0 J0 a1 a2)) (([.ref (ad 0), .int a1, .int a2] : List Value).toArray) s 0 0 (mA 23 ad)) (F0 m 2 ls [])) := ⟨_, rfl⟩
  have c2 : ∀ (I : mI) (J : mJ) (x3 : Int32), wp_M_hearAll_2 K2 (qM_hearAll S I0 J0 a1 a2) I J a1 a2 x3 → K2 I J x3 := by
    intro I J x3 h
    rw [hK2]
    intro H locs ls hP hS hl
    unfold wp_M_hearAll_2 at h
    refine lv_iload_n hx hb dM_hearAll_2 rfl (lv_at hl 3 rfl) ?_
    refine lv_aload_n hx hb dM_hearAll_3 rfl (lv_at hl 0 rfl) ?_
    refine va_get (D := D) (ci := 6) (v := .ref (ad 4)) (C := RM) (T := TM) (N := 33) hx hb htb inM hown hK hP 0 (mw_at (by decide) (ym_0 _ _ _ _)) rfl 7 (by decide) (htb _ k2_179) (fun _ h9 => h9) rfl dM_hearAll_4 ?_
    refine lv_iload_n hx hb dM_hearAll_7 rfl (lv_at hl 2 rfl) ?_
    obtain ⟨hn1, h⟩ := h
    refine mr_iald hx hb hK hP 4 0 (by decide) rfl rfl hn1 dM_hearAll_8 ?_
    refine lv_icmp_ge (tgt := 71) hx hb dM_hearAll_9 (by decide) (fun hc => ?_) (fun hc => ?_)
    · have h := h.1 hc
      exact me_v hx hb hr hlk hP hS h dM_hearAll_71
    · have h := h.2 hc
      refine lv_aload_n hx hb dM_hearAll_12 rfl (lv_at hl 0 rfl) ?_
      refine va_get (D := D) (ci := 6) (v := .ref (ad 5)) (C := RM) (T := TM) (N := 33) hx hb htb inM hown hK hP 0 (mw_at (by decide) (ym_0 _ _ _ _)) rfl 8 (by decide) (htb _ k2_180) (fun _ h9 => h9) rfl dM_hearAll_13 ?_
      refine lv_iconst (v := 4) hx hb dM_hearAll_16 (by decide) ?_
      refine lv_iload_n hx hb dM_hearAll_17 rfl (lv_at hl 2 rfl) ?_
      refine lv_imul hx hb dM_hearAll_18 ?_
      refine lv_iload_n hx hb dM_hearAll_19 rfl (lv_at hl 3 rfl) ?_
      refine lv_iadd hx hb dM_hearAll_20 ?_
      obtain ⟨hn2, h⟩ := h
      refine mr_iald hx hb hK hP 5 0 (by decide) rfl rfl hn2 dM_hearAll_21 ?_
      refine lv_istore (lv' := [(4, .int (I 5 ((4 * a2) + x3).toNatClampNeg)), (0, .ref (ad 0)), (1, .int a1), (2, .int a2), (3, .int x3)]) hx hb dM_hearAll_22 hl (by decide) rfl (fun ls hl => ?_)
      refine lv_aload_n hx hb dM_hearAll_24 rfl (lv_at hl 1 rfl) ?_
      refine va_get (D := D) (ci := 6) (v := .ref (ad 15)) (C := RM) (T := TM) (N := 33) hx hb htb inM hown hK hP 0 (mw_at (by decide) (ym_0 _ _ _ _)) rfl 20 (by decide) (htb _ k2_192) (fun _ h9 => h9) rfl dM_hearAll_25 ?_
      refine lv_bipush (v := 80) hx hb dM_hearAll_28 (by decide) ?_
      refine lv_iload_n hx hb dM_hearAll_30 rfl (lv_at hl 2 rfl) ?_
      refine lv_imul hx hb dM_hearAll_31 ?_
      refine lv_iload hx hb dM_hearAll_32 (lv_at hl 0 rfl) ?_
      refine lv_bipush (v := 100) hx hb dM_hearAll_34 (by decide) ?_
      refine lv_irem hx hb dM_hearAll_36 (by decide) ?_
      refine lv_iadd hx hb dM_hearAll_37 ?_
      refine lv_iconst (v := 1) hx hb dM_hearAll_38 (by decide) ?_
      obtain ⟨hn3, h⟩ := h
      refine mr_zast hx hb hK hP hD hS 15 1 (by decide) (fun _ => rfl) rfl hn3 dM_hearAll_39 (fun H locs hP hS => ?_)
      generalize heI4 : mu I 15 ((80 * a1) + ((I 5 ((4 * a2) + x3).toNatClampNeg) - (I 5 ((4 * a2) + x3).toNatClampNeg) / 100 * 100)).toNatClampNeg (vp_nar .boolean 1) = I4 at hP
      have h := h I4 heI4.symm
      refine lv_iload hx hb dM_hearAll_40 (lv_at hl 0 rfl) ?_
      refine lv_bipush (v := 100) hx hb dM_hearAll_42 (by decide) ?_
      refine lv_icmp_lt (tgt := 65) hx hb dM_hearAll_44 (by decide) (fun hc => ?_) (fun hc => ?_)
      · have h := h.1 hc
        refine lv_iinc (k := 4) (v := x3 + 1) (lv' := [(3, .int (x3 + 1)), (4, .int (I 5 ((4 * a2) + x3).toNatClampNeg)), (0, .ref (ad 0)), (1, .int a1), (2, .int a2)]) hx hb dM_hearAll_65 hl rfl (by rfl) (by decide) rfl (fun ls hl => ?_)
        refine lv_goto (tgt := 2) hx hb dM_hearAll_68 (by decide) ?_
        rw [hK2] at h
        exact h _ _ _ hP hS (lv_sub hl [2, 3, 4, 0] rfl)
      · have h := h.2 hc
        refine lv_aload_n hx hb dM_hearAll_47 rfl (lv_at hl 1 rfl) ?_
        refine va_get (D := D) (ci := 6) (v := .ref (ad 15)) (C := RM) (T := TM) (N := 33) hx hb htb inM hown hK hP 0 (mw_at (by decide) (ym_0 _ _ _ _)) rfl 20 (by decide) (htb _ k2_192) (fun _ h9 => h9) rfl dM_hearAll_48 ?_
        refine lv_bipush (v := 80) hx hb dM_hearAll_51 (by decide) ?_
        refine lv_iload_n hx hb dM_hearAll_53 rfl (lv_at hl 2 rfl) ?_
        refine lv_imul hx hb dM_hearAll_54 ?_
        refine lv_iload hx hb dM_hearAll_55 (lv_at hl 0 rfl) ?_
        refine lv_bipush (v := 100) hx hb dM_hearAll_57 (by decide) ?_
        refine lv_idiv hx hb dM_hearAll_59 (by decide) ?_
        refine lv_iadd hx hb dM_hearAll_60 ?_
        refine lv_iconst (v := 1) hx hb dM_hearAll_61 (by decide) ?_
        refine lv_isub hx hb dM_hearAll_62 ?_
        refine lv_iconst (v := 1) hx hb dM_hearAll_63 (by decide) ?_
        obtain ⟨hn5, h⟩ := h
        refine mr_zast hx hb hK hP hD hS 15 1 (by decide) (fun _ => rfl) rfl hn5 dM_hearAll_64 (fun H locs hP hS => ?_)
        generalize heI6 : mu I4 15 (((80 * a1) + ((I 5 ((4 * a2) + x3).toNatClampNeg) / 100)) - 1).toNatClampNeg (vp_nar .boolean 1) = I6 at hP
        have h := h I6 heI6.symm
        refine lv_iinc (k := 4) (v := x3 + 1) (lv' := [(3, .int (x3 + 1)), (4, .int (I 5 ((4 * a2) + x3).toNatClampNeg)), (0, .ref (ad 0)), (1, .int a1), (2, .int a2)]) hx hb dM_hearAll_65 hl rfl (by rfl) (by decide) rfl (fun ls hl => ?_)
        refine lv_goto (tgt := 2) hx hb dM_hearAll_68 (by decide) ?_
        rw [hK2] at h
        exact h _ _ _ hP hS (lv_sub hl [2, 3, 4, 0] rfl)
  have h := P_M_hearAll S I0 J0 a1 a2  hp K2 (qM_hearAll S I0 J0 a1 a2) c2 (fun _ _ h => h)
  unfold wp_M_hearAll at h
  refine lv_iconst (v := 0) hx hb dM_hearAll_0 (by decide) ?_
  refine lv_istore_n (lv' := [(3, .int 0), (0, .ref (ad 0)), (1, .int a1), (2, .int a2)]) hx hb dM_hearAll_1 rfl hl (by decide) rfl (fun ls hl => ?_)
  rw [hK2] at h
  exact h _ _ _ hP hS (lv_sub hl [1, 2, 3, 0] rfl)
def wp_M_give_127 (K127 : mI → mJ → Int32 → Prop) (R : Int32 → mI → mJ → Prop) (I : mI) (J : mJ) (a1 : Int32) (a2 : Int32) (x4 : Int32) : Prop :=
  (((I 0 4) ≤ x4 → (vp_in (2 * a1) 6 ∧ (vp_in ((60 * a1) + (I 17 (2 * a1).toNatClampNeg)) 180 ∧ ((¬ ((I 14 ((60 * a1) + (I 17 (2 * a1).toNatClampNeg)).toNatClampNeg) = 0) → (vp_in (2 * a1) 6 ∧ (((I 0 28) ≤ (I 16 (2 * a1).toNatClampNeg) → R 1 I J) ∧ (¬ ((I 0 28) ≤ (I 16 (2 * a1).toNatClampNeg)) → (vp_in (2 * a1) 6 ∧ (∀ (I32 : mI), I32 = mu I 16 (2 * a1).toNatClampNeg (I 0 28) → (vp_in (2 * a1) 6 ∧ (∀ (I34 : mI), I34 = mu I32 17 (2 * a1).toNatClampNeg (I32 0 29) → R 1 I34 J)))))))) ∧ ((I 14 ((60 * a1) + (I 17 (2 * a1).toNatClampNeg)).toNatClampNeg) = 0 → (vp_in (2 * a1) 6 ∧ (∀ (I36 : mI), I36 = mu I 16 (2 * a1).toNatClampNeg (I 0 28) → (vp_in (2 * a1) 6 ∧ (∀ (I38 : mI), I38 = mu I36 17 (2 * a1).toNatClampNeg (I36 0 29) → R 1 I38 J))))))))) ∧ (¬ ((I 0 4) ≤ x4) → (vp_in ((60 * a1) + x4) 180 ∧ (((I 14 ((60 * a1) + x4).toNatClampNeg) = 0 → (vp_in ((60 * a1) + x4) 180 ∧ (∀ (I41 : mI), I41 = mu I 14 ((60 * a1) + x4).toNatClampNeg (vp_nar .boolean 0) → K127 I41 J (x4 + 1)))) ∧ (¬ ((I 14 ((60 * a1) + x4).toNatClampNeg) = 0) → (∃ (S42 : mI), (pM_descends S42 I J x4 (I 0 31) ∧ (((fM_descends S42 I J x4 (I 0 31)) = 0 → (vp_in ((60 * a1) + x4) 180 ∧ (∀ (I45 : mI), I45 = mu I 14 ((60 * a1) + x4).toNatClampNeg (vp_nar .boolean 0) → K127 I45 J (x4 + 1)))) ∧ (¬ ((fM_descends S42 I J x4 (I 0 31)) = 0) → (vp_in ((60 * a1) + x4) 180 ∧ (∀ (I47 : mI), I47 = mu I 14 ((60 * a1) + x4).toNatClampNeg (vp_nar .boolean 1) → K127 I47 J (x4 + 1))))))))))))
def wp_M_give (K127 : mI → mJ → Int32 → Prop) (R : Int32 → mI → mJ → Prop) (I0 : mI) (J0 : mJ) (a1 : Int32) (a2 : Int32) : Prop :=
  (((fM_isNode I0 J0 a1) = 0 → R 0 I0 J0) ∧ (¬ ((fM_isNode I0 J0 a1) = 0) → (((fM_isBlock I0 J0 a2) = 0 → R 0 I0 J0) ∧ (¬ ((fM_isBlock I0 J0 a2) = 0) → (vp_in ((60 * a1) + a2) 180 ∧ ((¬ ((I0 14 ((60 * a1) + a2).toNatClampNeg) = 0) → R 0 I0 J0) ∧ ((I0 14 ((60 * a1) + a2).toNatClampNeg) = 0 → ((a2 = 0 → R 0 I0 J0) ∧ (¬ (a2 = 0) → (vp_in a2 60 ∧ (vp_in ((60 * a1) + (I0 2 a2.toNatClampNeg)) 180 ∧ ((¬ ((I0 14 ((60 * a1) + (I0 2 a2.toNatClampNeg)).toNatClampNeg) = 0) → (vp_in ((60 * a1) + a2) 180 ∧ (∀ (I7 : mI), I7 = mu I0 14 ((60 * a1) + a2).toNatClampNeg (vp_nar .boolean 1) → (∃ (S8 : mI), (pM_hearAll S8 I7 J0 a1 a2 ∧ (∀ (I11 : mI) (J12 : mJ), qM_hearAll S8 I7 J0 a1 a2 I11 J12 → (∃ (S13 : mI), (pM_make S13 I11 J12 a2 ∧ (∀ (I16 : mI) (J17 : mJ), qM_make S13 I11 J12 a2 I16 J17 → (vp_in ((2 * a1) + 1) 6 ∧ (((I16 0 30) ≤ (I16 16 ((2 * a1) + 1).toNatClampNeg) → (vp_in (2 * a1) 6 ∧ (((I16 0 28) ≤ (I16 16 (2 * a1).toNatClampNeg) → R 1 I16 J17) ∧ (¬ ((I16 0 28) ≤ (I16 16 (2 * a1).toNatClampNeg)) → (vp_in (2 * a1) 6 ∧ (∀ (I21 : mI), I21 = mu I16 16 (2 * a1).toNatClampNeg (I16 0 28) → (vp_in (2 * a1) 6 ∧ (∀ (I23 : mI), I23 = mu I21 17 (2 * a1).toNatClampNeg (I21 0 29) → R 1 I23 J17)))))))) ∧ (¬ ((I16 0 30) ≤ (I16 16 ((2 * a1) + 1).toNatClampNeg)) → (vp_in ((2 * a1) + 1) 6 ∧ (∀ (I25 : mI), I25 = mu I16 16 ((2 * a1) + 1).toNatClampNeg (I16 0 30) → (vp_in ((2 * a1) + 1) 6 ∧ (∀ (I27 : mI), I27 = mu I25 17 ((2 * a1) + 1).toNatClampNeg (I25 0 31) → K127 I27 J17 0)))))))))))))))) ∧ ((I0 14 ((60 * a1) + (I0 2 a2.toNatClampNeg)).toNatClampNeg) = 0 → R 0 I0 J0)))))))))))))
theorem P_M_give (S : mI) (I0 : mI) (J0 : mJ) (a1 : Int32) (a2 : Int32)  (hp : pY2 S I0 J0 a1 a2) (K127 : mI → mJ → Int32 → Prop) (R : Int32 → mI → mJ → Prop) (c127 : ∀ (I : mI) (J : mJ) (x4 : Int32), wp_M_give_127 K127 R I J a1 a2 x4 → K127 I J x4) (hR : ∀ (r : Int32) (I' : mI) (J' : mJ), qM_give S I0 J0 a1 a2 r I' J' → R r I' J') : wp_M_give K127 R I0 J0 a1 a2 := by
  have hY : YR S I0 := hp
  have hb := hY.1.b
  have hR : ∀ I' J', RY (oGiv S a1 a2).2 I' → R (oGiv S a1 a2).1 I' J' := fun I' J' h => hR _ I' J' ⟨rfl, h⟩
  unfold oGiv at hR
  unfold wp_M_give
  refine ⟨fun h => ?_, fun h => ⟨fun h2 => ?_, fun h2 => ?_⟩⟩
  · rw [if_pos (Or.inl (isNm.mp h))] at hR
    exact hR I0 J0 hY.2
  · rw [if_pos (Or.inr (Or.inl (hY.isB.mp h2)))] at hR
    exact hR I0 J0 hY.2
  have h1 : iNd a1 := nn (fun q => h (isNm.mpr q))
  have h3 : iBl S a2 := nn (fun q => h2 (hY.isB.mpr q))
  obtain ⟨n, hn, rfl⟩ := iNd_n h1
  obtain ⟨b, hb0, rfl⟩ := hY.1.iB h3
  rw [cN_nI (n := n) (by omega), cN_nI (n := b) (by omega)] at hR
  have n0 : nI b = 0 ↔ b = 0 := nI_eq (b := 0) (by omega) (by omega)
  rw [ix60, ic (n := 60 * n + b) (by omega), hY.r (j := 14) (by omega) (by omega), kn_0, n0, nar_1]
  refine ⟨iin (by omega) (by omega), fun z => ?_, fun z => ⟨fun z2 => ?_, fun z2 => ⟨iin (by omega) (by omega), ?_⟩⟩⟩
  · rw [if_pos (Or.inr (Or.inr (Or.inl (nf z))))] at hR
    exact hR I0 J0 hY.2
  · rw [if_pos (Or.inr (Or.inr (Or.inr (Or.inl z2))))] at hR
    exact hR I0 J0 hY.2
  have hpar := (hY.1.2.1 b hb0).2.2.2.2.2.1 (by omega)
  rw [ic (n := b) (by omega), hY.r (j := 2) (by omega) (by omega), hpar.1, ix60, ic (n := 60 * n + zPar S b) (by omega), kn_0]
  refine ⟨iin (by omega) (by omega), fun z3 => ?_, fun z3 => ?_⟩
  rotate_left
  · rw [if_pos (Or.inr (Or.inr (Or.inr (Or.inr z3))))] at hR
    exact hR I0 J0 hY.2
  rw [if_neg (fun q => q.elim (fun y => y h1) (fun q => q.elim (fun y => y h3) (fun q => q.elim (fun y => by rw [z] at y; exact absurd y (by decide)) (fun q => q.elim z2 z3))))] at hR
  have hR : ∀ I' J', RY (zGive S n b) I' → R 1 I' J' := hR
  refine ⟨iin (by omega) (by omega), fun I7 e7 => ?_⟩
  have W1 : WF (mu S 14 (60 * n + b) 1) := hY.1.kno _
  have Y1 : RY (mu S 14 (60 * n + b) 1) I7 := by rw [e7]; exact hY.2.mu _ _ _
  refine ⟨mu S 14 (60 * n + b) 1, ⟨⟨W1, Y1⟩, ⟨n, hn, rfl⟩, ⟨b, hb0, rfl⟩⟩, fun I11 J12 hq => ?_⟩
  unfold qM_hearAll at hq
  rw [cN_nI (n := n) (by omega), cN_nI (n := b) (by omega)] at hq
  unfold zGive at hR
  have hq : RY (zItems (mu S 14 (60 * n + b) 1) n b (zIc S b)) I11 := hq
  have W2 : WF (zItems (mu S 14 (60 * n + b) 1) n b (zIc S b)) := W1.items' (b := b) hb0 (zIc S b) (Nat.le_refl _)
  have B2 : zBc (zItems (mu S 14 (60 * n + b) 1) n b (zIc S b)) = zBc S := bc_of (congrFun (zItems_row (mu S 14 (60 * n + b) 1) n b (zIc S b) (j := 0) (by omega)) 4)
  generalize zItems (mu S 14 (60 * n + b) 1) n b (zIc S b) = T at hR hq W2 B2
  clear W1 Y1
  refine ⟨T, ⟨⟨W2, hq⟩, ⟨b, by omega, rfl⟩⟩, fun I16 J17 hq2 => ?_⟩
  obtain ⟨-, hg, hE⟩ := hq2
  rw [cN_nI (by omega)] at hE
  have hY16 : YR T I16 := YR.g ⟨W2, hq⟩ hg
  have hgw := W2.g (b := b) (by omega)
  unfold gW at hgw
  unfold zTake at hR
  generalize hGe : gS T b = G at hE hgw
  have hN0 := W2.n hn (k := 0) (by omega)
  have hN1 := W2.n hn (k := 1) (by omega)
  rw [show 2 * n + 0 = 2 * n from rfl] at hN0
  have i0 : vp_in (nI (2 * n)) 6 := iin (by omega) (by omega)
  have i1 : vp_in (nI (2 * n + 1)) 6 := iin (by omega) (by omega)
  rw [ix21, ix2, ic (n := 2 * n) (by omega), ic (n := 2 * n + 1) (by omega), hY16.r (j := 16) (by omega) (by omega), hN0.1, hN1.1, hE.2.2.2.2.1, hE.2.2.1, nI_leI (b := zNe T (2 * n + 1)) (by omega) (by omega), nI_leI (b := zNe T (2 * n)) (by omega) (by omega)]
  refine ⟨i1, fun c1 => ⟨i0, fun c2 => hR I16 J17 ?_, fun c2 => ⟨i0, fun I21 e21 => ⟨i0, fun I23 e23 => hR I23 J17 ?_⟩⟩⟩, fun c1 => ⟨i1, fun I25 e25 => ?_⟩⟩
  · have t1 : zTk1 T n b = T := by unfold zTk1; rw [hGe, if_neg (by omega)]
    rw [t1]
    unfold zTk2
    rw [hGe, if_neg (fun q => q.elim (fun y => by omega) (fun y => by omega))]
    exact hY16.2
  · have t1 : zTk1 T n b = T := by unfold zTk1; rw [hGe, if_neg (by omega)]
    rw [t1]
    unfold zTk2
    rw [hGe, if_pos (Or.inr (by omega)), e23, e21, mu_other _ _ _ (by omega), hE.2.2.2.1]
    exact (hY16.2.mu _ _ _).mu _ _ _
  · have q25 : I25 0 = I16 0 := by rw [e25]; exact mu_other _ _ _ (by omega)
    rw [q25, hE.2.2.2.2.2]
    refine ⟨i1, fun I27 e27 => ?_⟩
    have q27 : I27 0 = I16 0 := by rw [e27, mu_other _ _ _ (by omega), q25]
    have W3 : WF (mu (mu T 16 (2 * n + 1) (nI (gFe G))) 17 (2 * n + 1) (nI (gFb G))) := W2.setn (by omega) (by omega) (by omega)
    have Y3 : RY (mu (mu T 16 (2 * n + 1) (nI (gFe G))) 17 (2 * n + 1) (nI (gFb G))) I27 := by rw [e27, e25]; exact (hY16.2.mu _ _ _).mu _ _ _
    have t1 : zTk1 T n b = zFor (mu (mu T 16 (2 * n + 1) (nI (gFe G))) 17 (2 * n + 1) (nI (gFb G))) n (gFb G) := by unfold zTk1; rw [hGe, if_pos (by omega)]
    have B3 : zBc (mu (mu T 16 (2 * n + 1) (nI (gFe G))) 17 (2 * n + 1) (nI (gFb G))) = zBc S := B2
    unfold zTk2 at hR
    rw [t1, hGe] at hR
    generalize mu (mu T 16 (2 * n + 1) (nI (gFe G))) 17 (2 * n + 1) (nI (gFb G)) = U at hR W3 Y3 B3
    have key : ∀ m k I J, k + m = zBc S → RY (zFk U n (gFb G) k) I → I 0 = I16 0 → K127 I J (nI k) := by
      intro m
      induction m with
      | zero =>
        intro k I J hk hRI h0
        have hk : k = zBc S := by omega
        subst hk
        have hRI : RY (zFor U n (gFb G)) I := by
          rw [← B3] at hRI
          exact hRI
        have W4 : WF (zFor U n (gFb G)) := W3.fk n (gFb G) (zBc U)
        have B4 : zBc (zFor U n (gFb G)) = zBc S := B3
        generalize zFor U n (gFb G) = V at hR hRI W4 B4
        have hYI : YR V I := ⟨W4, hRI⟩
        have hV0 := W4.n hn (k := 0) (by omega)
        rw [show 2 * n + 0 = 2 * n from rfl] at hV0
        have hbc0 : I 0 4 = nI (zBc S) := by rw [← B4]; exact hYI.bc
        apply c127
        unfold wp_M_give_127
        rw [ix2, ic (n := 2 * n) (by omega), hYI.r (j := 17) (by omega) (by omega), hV0.2.2.1, ix60, ic (n := 60 * n + zNb V (2 * n)) (by omega), hYI.r (j := 14) (by omega) (by omega), kn_0, hYI.r (j := 16) (by omega) (by omega), hV0.1, hbc0, h0, hE.2.2.1, nI_leI (b := zNe V (2 * n)) (by omega) (by omega)]
        have set : ∀ I36 I38 J, I36 = mu I 16 (2 * n) (nI (gJe G)) → I38 = mu I36 17 (2 * n) (I36 0 29) → ((zNe T (2 * n + 1) < gFe G ∧ zKn V n (zNb V (2 * n)) = false) ∨ zNe V (2 * n) < gJe G) → R 1 I38 J := fun I36 I38 J e36 e38 c => by
          refine hR I38 J ?_
          rw [if_pos c, e38, e36, mu_other _ _ _ (by omega), h0, hE.2.2.2.1]
          exact (hRI.mu _ _ _).mu _ _ _
        refine ⟨fun _ => ⟨i0, iin (by omega) (by omega), fun y => ⟨i0, fun y2 => hR I J ?_, fun y2 => ⟨i0, fun I32 e32 => ⟨i0, fun I34 e34 => set _ _ _ e32 e34 (Or.inr (by omega))⟩⟩⟩, fun y => ⟨i0, fun I36 e36 => ⟨i0, fun I38 e38 => set _ _ _ e36 e38 (Or.inl ⟨by omega, y⟩)⟩⟩⟩, fun y => absurd (nI_le (Nat.le_refl _) (by omega)) y⟩
        rw [if_neg (fun q => q.elim (fun x => y x.2) (fun x => by omega))]
        exact hRI
      | succ m ih =>
        intro k I J hk hRI h0
        have W4 : WF (zFk U n (gFb G) k) := W3.fk n (gFb G) k
        have hYI : YR (zFk U n (gFb G) k) I := ⟨W4, hRI⟩
        have B4 : zBc (zFk U n (gFb G) k) = zBc S := B3
        have hbc0 : I 0 4 = nI (zBc S) := by rw [← B4]; exact hYI.bc
        have v14 : I 14 (60 * n + k) = U 14 (60 * n + k) := by
          rw [hYI.r (j := 14) (by omega) (by omega)]
          unfold zFk
          rw [mrow_self, if_neg (fun y => by omega)]
        have hD : zD (zFk U n (gFb G) k) k (gFb G) = zD U k (gFb G) := zAg.d (zAg.rows (fun j j1 j2 j3 => zFk_row U n (gFb G) k (by omega)) rfl rfl rfl (zBc U) (zVc U)) W3.up (Nat.le_refl _) (by omega) _
        have u01 := (W3.2.2.2.2 n hn).2.1 k (by omega)
        have st : ∀ (v : Int32) I', I' = mu I 14 (60 * n + k) v → (v = if zD U k (gFb G) = false then 0 else U 14 (60 * n + k)) → K127 I' J (nI (k + 1)) := fun v I' e' hv => by
          refine ih (k + 1) I' J (by omega) ?_ (by rw [e']; exact (mu_other _ _ _ (by omega)).trans h0)
          rw [e', zFk_s hv]
          exact hRI.mu _ _ _
        apply c127
        unfold wp_M_give_127
        rw [hbc0, h0, hE.2.2.2.2.2, ix60 n k, ic (n := 60 * n + k) (by omega), v14, nI_1 k, nar_0, nar_1]
        have hin : vp_in (nI (60 * n + k)) 180 := iin (by omega) (by omega)
        refine ⟨fun y => absurd y (nI_ge (by omega) (by omega)), fun _ => ⟨hin, fun y => ⟨hin, fun I41 e41 => st 0 I41 e41 (by rw [y]; by_cases c : zD U k (gFb G) = false <;> simp [c])⟩, fun y => ⟨zFk U n (gFb G) k, ⟨hYI, ⟨k, by omega, rfl⟩, ⟨gFb G, by omega, rfl⟩⟩, ?_⟩⟩⟩
        unfold fM_descends
        rw [cN_nI (n := k) (by omega), cN_nI (n := gFb G) (by omega), hD]
        refine ⟨fun x => ⟨hin, fun I45 e45 => st 0 I45 e45 (by rw [if_pos (bz_0.mp x)])⟩, fun x => ⟨hin, fun I47 e47 => st 1 I47 e47 ?_⟩⟩
        rw [if_neg (by rw [bz_n0.mp x]; decide)]
        rcases u01 with u | u
        · exact absurd u y
        · exact u.symm
    exact key (zBc S) 0 I27 J17 (by omega) (by rw [zFk_0]; exact Y3) q27
set_option maxHeartbeats 4000000 in
set_option maxRecDepth 100000 in
theorem C_M_give (l : Launch) (D : va_G) (ca : Nat → Nat) (ad : Nat → Nat) (S : mI) (I0 : mI) (J0 : mJ) (a1 : Int32) (a2 : Int32)  (hp : pY2 S I0 J0 a1 a2) : Met l yM_give wM_give ({ frames := 4, cells := 0, slots := 0, locals := 98 } : Room) (va_Pc [.ref (ad 0), .int a1, .int a2] (mPre D vwCl (xty ca) 23 ad (ymk ca ad) nL I0 J0)) (mQi D vwCl 23 ad (ymk ca ad) (qM_give S I0 J0 a1 a2)) 0 0 (mA 23 ad) := by
  refine Met.ofW (cc := cM_give) (maxL := 5) (ret := (some .boolean)) (by decide) rfl ?_
  intro p e s m args below meth c s₁ B hml hv
  obtain ⟨rfl, hP, hK, hD0, hN⟩ := hv
  have hx := B.exec
  have hb := B.bytes
  have hr := B.returns
  have htb : ∀ w ∈ wb, w.before _ s = true := fun w h => atoms_spec (ws := wM_give) B.pre w (List.mem_cons_of_mem _ h)
  have hown : s.vm.findClass RM = some m.cls := findClass_of_methodNamed B.named
  have hlk := B.notSynchronized
  have hD := mw_Dm hD0
  have hS : va_S (mA 23 ad) s.heap s.heap [] := va_S.rf
  have hl := lv_entry ([.ref (ad 0), .int a1, .int a2]) (n := 5) (Nat.le_of_ble_eq_true rfl)
  rw [lg_entry_eq]
  generalize (lg_sl ([.ref (ad 0), .int a1, .int a2]) ++ List.replicate (5 - (lg_sl ([.ref (ad 0), .int a1, .int a2])).length) Slot.unset).toArray = ls at hl ⊢
  have hl : lv_has ls 5 [(0, .ref (ad 0)), (1, .int a1), (2, .int a2)] := hl
  obtain ⟨K127, hK127⟩ : ∃ K : mI → mJ → Int32 → Prop, K = (fun I J x4 => ∀ (H : Heap) (locs : List Loc) (ls : Array Slot), va_P D vwCl (mw 23 ad (ymk ca ad) I J) H → va_S (mA 23 ad) s.heap H locs → lv_has ls 5 [(0, .ref (ad 0)), (1, .int a1), (4, .int x4)] → W p l e (headSpec wM_give ({ frames := 4, cells := 0, slots := 0, locals := 98 } : Room)).room s m (([.ref (ad 0), .int a1, .int a2] : List Value).toArray) below meth c H locs 0 0 (MQ below (mQi D vwCl 23 ad (ymk ca ad) (qM_give S I0 J0 a1 a2)) (([.ref (ad 0), .int a1, .int a2] : List Value).toArray) s 0 0 (mA 23 ad)) (F0 m 127 ls [])) := ⟨_, rfl⟩
  have c127 : ∀ (I : mI) (J : mJ) (x4 : Int32), wp_M_give_127 K127 (qM_give S I0 J0 a1 a2) I J a1 a2 x4 → K127 I J x4 := by
    intro I J x4 h
    rw [hK127]
    intro H locs ls hP hS hl
    unfold wp_M_give_127 at h
    refine lv_iload hx hb dM_give_127 (lv_at hl 2 rfl) ?_
    refine lv_aload_n hx hb dM_give_129 rfl (lv_at hl 0 rfl) ?_
    refine va_get (D := D) (ci := 6) (v := .int (I 0 4)) (C := RM) (T := TM) (N := 33) hx hb htb inM hown hK hP 0 (mw_at (by decide) (ym_0 _ _ _ _)) rfl 4 (by decide) (htb _ k2_176) (fun _ h9 => h9) rfl dM_give_130 ?_
    refine lv_icmp_ge (tgt := 187) hx hb dM_give_133 (by decide) (fun hc => ?_) (fun hc => ?_)
    · have h := h.1 hc
      refine lv_aload_n hx hb dM_give_187 rfl (lv_at hl 0 rfl) ?_
      refine va_get (D := D) (ci := 6) (v := .ref (ad 14)) (C := RM) (T := TM) (N := 33) hx hb htb inM hown hK hP 0 (mw_at (by decide) (ym_0 _ _ _ _)) rfl 19 (by decide) (htb _ k2_191) (fun _ h9 => h9) rfl dM_give_188 ?_
      refine lv_bipush (v := 60) hx hb dM_give_191 (by decide) ?_
      refine lv_iload_n hx hb dM_give_193 rfl (lv_at hl 1 rfl) ?_
      refine lv_imul hx hb dM_give_194 ?_
      refine lv_aload_n hx hb dM_give_195 rfl (lv_at hl 0 rfl) ?_
      refine va_get (D := D) (ci := 6) (v := .ref (ad 17)) (C := RM) (T := TM) (N := 33) hx hb htb inM hown hK hP 0 (mw_at (by decide) (ym_0 _ _ _ _)) rfl 22 (by decide) (htb _ k2_194) (fun _ h9 => h9) rfl dM_give_196 ?_
      refine lv_iconst (v := 2) hx hb dM_give_199 (by decide) ?_
      refine lv_iload_n hx hb dM_give_200 rfl (lv_at hl 1 rfl) ?_
      refine lv_imul hx hb dM_give_201 ?_
      obtain ⟨hn28, h⟩ := h
      refine mr_iald hx hb hK hP 17 0 (by decide) rfl rfl hn28 dM_give_202 ?_
      refine lv_iadd hx hb dM_give_203 ?_
      obtain ⟨hn29, h⟩ := h
      refine mr_zald hx hb hK hP 14 1 (by decide) rfl rfl hn29 dM_give_204 ?_
      refine lv_if_ne (tgt := 212) hx hb dM_give_205 (by decide) (fun hc => ?_) (fun hc => ?_)
      · have h := h.1 hc
        refine lv_iconst (v := 0) hx hb dM_give_212 (by decide) ?_
        refine lv_istore_n (lv' := [(3, .int 0), (0, .ref (ad 0)), (1, .int a1), (4, .int x4)]) hx hb dM_give_213 rfl hl (by decide) rfl (fun ls hl => ?_)
        refine lv_iload_n hx hb dM_give_214 rfl (lv_at hl 0 rfl) ?_
        refine lv_if_ne (tgt := 233) hx hb dM_give_215 (by decide) (fun hc => ?_) (fun hc => ?_)
        · first | exact absurd hc (by decide) | exact absurd (by decide) hc
        · skip
          refine lv_aload_n hx hb dM_give_218 rfl (lv_at hl 1 rfl) ?_
          refine va_get (D := D) (ci := 6) (v := .int (I 0 28)) (C := RM) (T := TM) (N := 33) hx hb htb inM hown hK hP 0 (mw_at (by decide) (ym_0 _ _ _ _)) rfl 28 (by decide) (htb _ k2_200) (fun _ h9 => h9) rfl dM_give_219 ?_
          refine lv_aload_n hx hb dM_give_222 rfl (lv_at hl 1 rfl) ?_
          refine va_get (D := D) (ci := 6) (v := .ref (ad 16)) (C := RM) (T := TM) (N := 33) hx hb htb inM hown hK hP 0 (mw_at (by decide) (ym_0 _ _ _ _)) rfl 21 (by decide) (htb _ k2_193) (fun _ h9 => h9) rfl dM_give_223 ?_
          refine lv_iconst (v := 2) hx hb dM_give_226 (by decide) ?_
          refine lv_iload_n hx hb dM_give_227 rfl (lv_at hl 2 rfl) ?_
          refine lv_imul hx hb dM_give_228 ?_
          obtain ⟨hn30, h⟩ := h
          refine mr_iald hx hb hK hP 16 0 (by decide) rfl rfl hn30 dM_give_229 ?_
          refine lv_icmp_le (tgt := 257) hx hb dM_give_230 (by decide) (fun hc => ?_) (fun hc => ?_)
          · have h := h.1 hc
            refine lv_iconst (v := 1) hx hb dM_give_257 (by decide) ?_
            exact me_z hx hb hr hlk hP hS rfl h dM_give_258
          · have h := h.2 hc
            refine lv_aload_n hx hb dM_give_233 rfl (lv_at hl 1 rfl) ?_
            refine va_get (D := D) (ci := 6) (v := .ref (ad 16)) (C := RM) (T := TM) (N := 33) hx hb htb inM hown hK hP 0 (mw_at (by decide) (ym_0 _ _ _ _)) rfl 21 (by decide) (htb _ k2_193) (fun _ h9 => h9) rfl dM_give_234 ?_
            refine lv_iconst (v := 2) hx hb dM_give_237 (by decide) ?_
            refine lv_iload_n hx hb dM_give_238 rfl (lv_at hl 2 rfl) ?_
            refine lv_imul hx hb dM_give_239 ?_
            refine lv_aload_n hx hb dM_give_240 rfl (lv_at hl 1 rfl) ?_
            refine va_get (D := D) (ci := 6) (v := .int (I 0 28)) (C := RM) (T := TM) (N := 33) hx hb htb inM hown hK hP 0 (mw_at (by decide) (ym_0 _ _ _ _)) rfl 28 (by decide) (htb _ k2_200) (fun _ h9 => h9) rfl dM_give_241 ?_
            obtain ⟨hn31, h⟩ := h
            refine mr_iast hx hb hK hP hD hS 16 0 (by decide) (fun _ => rfl) rfl hn31 dM_give_244 (fun H locs hP hS => ?_)
            generalize heI32 : mu I 16 (2 * a1).toNatClampNeg (I 0 28) = I32 at hP
            have h := h I32 heI32.symm
            refine lv_aload_n hx hb dM_give_245 rfl (lv_at hl 1 rfl) ?_
            refine va_get (D := D) (ci := 6) (v := .ref (ad 17)) (C := RM) (T := TM) (N := 33) hx hb htb inM hown hK hP 0 (mw_at (by decide) (ym_0 _ _ _ _)) rfl 22 (by decide) (htb _ k2_194) (fun _ h9 => h9) rfl dM_give_246 ?_
            refine lv_iconst (v := 2) hx hb dM_give_249 (by decide) ?_
            refine lv_iload_n hx hb dM_give_250 rfl (lv_at hl 2 rfl) ?_
            refine lv_imul hx hb dM_give_251 ?_
            refine lv_aload_n hx hb dM_give_252 rfl (lv_at hl 1 rfl) ?_
            refine va_get (D := D) (ci := 6) (v := .int (I32 0 29)) (C := RM) (T := TM) (N := 33) hx hb htb inM hown hK hP 0 (mw_at (by decide) (ym_0 _ _ _ _)) rfl 29 (by decide) (htb _ k2_201) (fun _ h9 => h9) rfl dM_give_253 ?_
            obtain ⟨hn33, h⟩ := h
            refine mr_iast hx hb hK hP hD hS 17 0 (by decide) (fun _ => rfl) rfl hn33 dM_give_256 (fun H locs hP hS => ?_)
            generalize heI34 : mu I32 17 (2 * a1).toNatClampNeg (I32 0 29) = I34 at hP
            have h := h I34 heI34.symm
            refine lv_iconst (v := 1) hx hb dM_give_257 (by decide) ?_
            exact me_z hx hb hr hlk hP hS rfl h dM_give_258
      · have h := h.2 hc
        refine lv_iconst (v := 1) hx hb dM_give_208 (by decide) ?_
        refine lv_goto (tgt := 213) hx hb dM_give_209 (by decide) ?_
        refine lv_istore_n (lv' := [(3, .int 1), (0, .ref (ad 0)), (1, .int a1), (4, .int x4)]) hx hb dM_give_213 rfl hl (by decide) rfl (fun ls hl => ?_)
        refine lv_iload_n hx hb dM_give_214 rfl (lv_at hl 0 rfl) ?_
        refine lv_if_ne (tgt := 233) hx hb dM_give_215 (by decide) (fun hc => ?_) (fun hc => ?_)
        · skip
          refine lv_aload_n hx hb dM_give_233 rfl (lv_at hl 1 rfl) ?_
          refine va_get (D := D) (ci := 6) (v := .ref (ad 16)) (C := RM) (T := TM) (N := 33) hx hb htb inM hown hK hP 0 (mw_at (by decide) (ym_0 _ _ _ _)) rfl 21 (by decide) (htb _ k2_193) (fun _ h9 => h9) rfl dM_give_234 ?_
          refine lv_iconst (v := 2) hx hb dM_give_237 (by decide) ?_
          refine lv_iload_n hx hb dM_give_238 rfl (lv_at hl 2 rfl) ?_
          refine lv_imul hx hb dM_give_239 ?_
          refine lv_aload_n hx hb dM_give_240 rfl (lv_at hl 1 rfl) ?_
          refine va_get (D := D) (ci := 6) (v := .int (I 0 28)) (C := RM) (T := TM) (N := 33) hx hb htb inM hown hK hP 0 (mw_at (by decide) (ym_0 _ _ _ _)) rfl 28 (by decide) (htb _ k2_200) (fun _ h9 => h9) rfl dM_give_241 ?_
          obtain ⟨hn35, h⟩ := h
          refine mr_iast hx hb hK hP hD hS 16 0 (by decide) (fun _ => rfl) rfl hn35 dM_give_244 (fun H locs hP hS => ?_)
          generalize heI36 : mu I 16 (2 * a1).toNatClampNeg (I 0 28) = I36 at hP
          have h := h I36 heI36.symm
          refine lv_aload_n hx hb dM_give_245 rfl (lv_at hl 1 rfl) ?_
          refine va_get (D := D) (ci := 6) (v := .ref (ad 17)) (C := RM) (T := TM) (N := 33) hx hb htb inM hown hK hP 0 (mw_at (by decide) (ym_0 _ _ _ _)) rfl 22 (by decide) (htb _ k2_194) (fun _ h9 => h9) rfl dM_give_246 ?_
          refine lv_iconst (v := 2) hx hb dM_give_249 (by decide) ?_
          refine lv_iload_n hx hb dM_give_250 rfl (lv_at hl 2 rfl) ?_
          refine lv_imul hx hb dM_give_251 ?_
          refine lv_aload_n hx hb dM_give_252 rfl (lv_at hl 1 rfl) ?_
          refine va_get (D := D) (ci := 6) (v := .int (I36 0 29)) (C := RM) (T := TM) (N := 33) hx hb htb inM hown hK hP 0 (mw_at (by decide) (ym_0 _ _ _ _)) rfl 29 (by decide) (htb _ k2_201) (fun _ h9 => h9) rfl dM_give_253 ?_
          obtain ⟨hn37, h⟩ := h
          refine mr_iast hx hb hK hP hD hS 17 0 (by decide) (fun _ => rfl) rfl hn37 dM_give_256 (fun H locs hP hS => ?_)
          generalize heI38 : mu I36 17 (2 * a1).toNatClampNeg (I36 0 29) = I38 at hP
          have h := h I38 heI38.symm
          refine lv_iconst (v := 1) hx hb dM_give_257 (by decide) ?_
          exact me_z hx hb hr hlk hP hS rfl h dM_give_258
        · first | exact absurd hc (by decide) | exact absurd (by decide) hc
    · have h := h.2 hc
      refine lv_aload_n hx hb dM_give_136 rfl (lv_at hl 0 rfl) ?_
      refine va_get (D := D) (ci := 6) (v := .ref (ad 14)) (C := RM) (T := TM) (N := 33) hx hb htb inM hown hK hP 0 (mw_at (by decide) (ym_0 _ _ _ _)) rfl 19 (by decide) (htb _ k2_191) (fun _ h9 => h9) rfl dM_give_137 ?_
      refine lv_bipush (v := 60) hx hb dM_give_140 (by decide) ?_
      refine lv_iload_n hx hb dM_give_142 rfl (lv_at hl 1 rfl) ?_
      refine lv_imul hx hb dM_give_143 ?_
      refine lv_iload hx hb dM_give_144 (lv_at hl 2 rfl) ?_
      refine lv_iadd hx hb dM_give_146 ?_
      refine lv_aload_n hx hb dM_give_147 rfl (lv_at hl 0 rfl) ?_
      refine va_get (D := D) (ci := 6) (v := .ref (ad 14)) (C := RM) (T := TM) (N := 33) hx hb htb inM hown hK hP 0 (mw_at (by decide) (ym_0 _ _ _ _)) rfl 19 (by decide) (htb _ k2_191) (fun _ h9 => h9) rfl dM_give_148 ?_
      refine lv_bipush (v := 60) hx hb dM_give_151 (by decide) ?_
      refine lv_iload_n hx hb dM_give_153 rfl (lv_at hl 1 rfl) ?_
      refine lv_imul hx hb dM_give_154 ?_
      refine lv_iload hx hb dM_give_155 (lv_at hl 2 rfl) ?_
      refine lv_iadd hx hb dM_give_157 ?_
      obtain ⟨hn39, h⟩ := h
      refine mr_zald hx hb hK hP 14 1 (by decide) rfl rfl hn39 dM_give_158 ?_
      refine lv_if_eq (tgt := 179) hx hb dM_give_159 (by decide) (fun hc => ?_) (fun hc => ?_)
      · have h := h.1 hc
        refine lv_iconst (v := 0) hx hb dM_give_179 (by decide) ?_
        obtain ⟨hn40, h⟩ := h
        refine mr_zast hx hb hK hP hD hS 14 1 (by decide) (fun _ => rfl) rfl hn40 dM_give_180 (fun H locs hP hS => ?_)
        generalize heI41 : mu I 14 ((60 * a1) + x4).toNatClampNeg (vp_nar .boolean 0) = I41 at hP
        have h := h I41 heI41.symm
        refine lv_iinc (k := 2) (v := x4 + 1) (lv' := [(4, .int (x4 + 1)), (0, .ref (ad 0)), (1, .int a1)]) hx hb dM_give_181 hl rfl (by rfl) (by decide) rfl (fun ls hl => ?_)
        refine lv_goto (tgt := 127) hx hb dM_give_184 (by decide) ?_
        rw [hK127] at h
        exact h _ _ _ hP hS (lv_sub hl [1, 2, 0] rfl)
      · have h := h.2 hc
        refine lv_aload_n hx hb dM_give_162 rfl (lv_at hl 0 rfl) ?_
        refine lv_iload hx hb dM_give_163 (lv_at hl 2 rfl) ?_
        refine lv_aload_n hx hb dM_give_165 rfl (lv_at hl 0 rfl) ?_
        refine va_get (D := D) (ci := 6) (v := .int (I 0 31)) (C := RM) (T := TM) (N := 33) hx hb htb inM hown hK hP 0 (mw_at (by decide) (ym_0 _ _ _ _)) rfl 31 (by decide) (htb _ k2_203) (fun _ h9 => h9) rfl dM_give_166 ?_
        obtain ⟨S42, h⟩ := h
        obtain ⟨hp43, h⟩ := h
        refine mc_r (va_runV (As := [.int x4, .int (I 0 31)]) (rest := [.int ((60 * a1) + x4), .ref (ad 14)]) ⟨hx, hb, hml, hown, htb⟩ (C_M_descends l D ca ad S42 I J x4 (I 0 31) hp43) (cwV 2 htb (gd_v k3_142 k3_144 ks34 k1_8 k3_145) rfl rfl rfl (by decide +kernel) ⟨Nat.le_of_ble_eq_true rfl, Nat.le_of_ble_eq_true rfl⟩) (mPre_V hK hP hD hN rfl (mw_at (by decide) (ym_0 _ _ _ _))) rfl rfl hl.1 rfl (lv_room (Nat.le_of_ble_eq_true rfl)) dM_give_169 ⟨Nat.le_of_ble_eq_true rfl, Nat.le_of_ble_eq_true rfl⟩) hS (fun H locs hP hS => ?_)
        refine lv_if_eq (tgt := 179) hx hb dM_give_172 (by decide) (fun hc => ?_) (fun hc => ?_)
        · have h := h.1 hc
          refine lv_iconst (v := 0) hx hb dM_give_179 (by decide) ?_
          obtain ⟨hn44, h⟩ := h
          refine mr_zast hx hb hK hP hD hS 14 1 (by decide) (fun _ => rfl) rfl hn44 dM_give_180 (fun H locs hP hS => ?_)
          generalize heI45 : mu I 14 ((60 * a1) + x4).toNatClampNeg (vp_nar .boolean 0) = I45 at hP
          have h := h I45 heI45.symm
          refine lv_iinc (k := 2) (v := x4 + 1) (lv' := [(4, .int (x4 + 1)), (0, .ref (ad 0)), (1, .int a1)]) hx hb dM_give_181 hl rfl (by rfl) (by decide) rfl (fun ls hl => ?_)
          refine lv_goto (tgt := 127) hx hb dM_give_184 (by decide) ?_
          rw [hK127] at h
          exact h _ _ _ hP hS (lv_sub hl [1, 2, 0] rfl)
        · have h := h.2 hc
          refine lv_iconst (v := 1) hx hb dM_give_175 (by decide) ?_
          refine lv_goto (tgt := 180) hx hb dM_give_176 (by decide) ?_
          obtain ⟨hn46, h⟩ := h
          refine mr_zast hx hb hK hP hD hS 14 1 (by decide) (fun _ => rfl) rfl hn46 dM_give_180 (fun H locs hP hS => ?_)
          generalize heI47 : mu I 14 ((60 * a1) + x4).toNatClampNeg (vp_nar .boolean 1) = I47 at hP
          have h := h I47 heI47.symm
          refine lv_iinc (k := 2) (v := x4 + 1) (lv' := [(4, .int (x4 + 1)), (0, .ref (ad 0)), (1, .int a1)]) hx hb dM_give_181 hl rfl (by rfl) (by decide) rfl (fun ls hl => ?_)
          refine lv_goto (tgt := 127) hx hb dM_give_184 (by decide) ?_
          rw [hK127] at h
          exact h _ _ _ hP hS (lv_sub hl [1, 2, 0] rfl)
  have h := P_M_give S I0 J0 a1 a2  hp K127 (qM_give S I0 J0 a1 a2) c127 (fun _ _ _ h => h)
  unfold wp_M_give at h
  refine lv_iload_n hx hb dM_give_0 rfl (lv_at hl 1 rfl) ?_
  refine mc_r (va_runS (As := [.int a1]) (rest := []) ⟨hx, hb, hml, hown, htb⟩ (C_M_isNode l D ca ad I0 J0 a1) (va_cwS 1 htb (gd_s k3_135 k3_136 k1_8 k3_137) rfl rfl rfl (by decide +kernel) ⟨Nat.le_of_ble_eq_true rfl, Nat.le_of_ble_eq_true rfl⟩) (mPre_S hK hP hD hN) rfl rfl hl.1 rfl (lv_room (Nat.le_of_ble_eq_true rfl)) dM_give_1 ⟨Nat.le_of_ble_eq_true rfl, Nat.le_of_ble_eq_true rfl⟩) hS (fun H locs hP hS => ?_)
  refine lv_if_eq (tgt := 52) hx hb dM_give_4 (by decide) (fun hc => ?_) (fun hc => ?_)
  · have h := h.1 hc
    refine lv_iconst (v := 0) hx hb dM_give_52 (by decide) ?_
    exact me_z hx hb hr hlk hP hS rfl h dM_give_53
  · have h := h.2 hc
    refine lv_aload_n hx hb dM_give_7 rfl (lv_at hl 0 rfl) ?_
    refine lv_iload_n hx hb dM_give_8 rfl (lv_at hl 2 rfl) ?_
    refine mc_r (va_runV (As := [.int a2]) (rest := []) ⟨hx, hb, hml, hown, htb⟩ (C_M_isBlock l D ca ad I0 J0 a2) (cwV 1 htb (gd_v k3_40 k3_42 ks20 k1_8 k3_43) rfl rfl rfl (by decide +kernel) ⟨Nat.le_of_ble_eq_true rfl, Nat.le_of_ble_eq_true rfl⟩) (mPre_V hK hP hD hN rfl (mw_at (by decide) (ym_0 _ _ _ _))) rfl rfl hl.1 rfl (lv_room (Nat.le_of_ble_eq_true rfl)) dM_give_9 ⟨Nat.le_of_ble_eq_true rfl, Nat.le_of_ble_eq_true rfl⟩) hS (fun H locs hP hS => ?_)
    refine lv_if_eq (tgt := 52) hx hb dM_give_12 (by decide) (fun hc => ?_) (fun hc => ?_)
    · have h := h.1 hc
      refine lv_iconst (v := 0) hx hb dM_give_52 (by decide) ?_
      exact me_z hx hb hr hlk hP hS rfl h dM_give_53
    · have h := h.2 hc
      refine lv_aload_n hx hb dM_give_15 rfl (lv_at hl 0 rfl) ?_
      refine va_get (D := D) (ci := 6) (v := .ref (ad 14)) (C := RM) (T := TM) (N := 33) hx hb htb inM hown hK hP 0 (mw_at (by decide) (ym_0 _ _ _ _)) rfl 19 (by decide) (htb _ k2_191) (fun _ h9 => h9) rfl dM_give_16 ?_
      refine lv_bipush (v := 60) hx hb dM_give_19 (by decide) ?_
      refine lv_iload_n hx hb dM_give_21 rfl (lv_at hl 1 rfl) ?_
      refine lv_imul hx hb dM_give_22 ?_
      refine lv_iload_n hx hb dM_give_23 rfl (lv_at hl 2 rfl) ?_
      refine lv_iadd hx hb dM_give_24 ?_
      obtain ⟨hn3, h⟩ := h
      refine mr_zald hx hb hK hP 14 1 (by decide) rfl rfl hn3 dM_give_25 ?_
      refine lv_if_ne (tgt := 52) hx hb dM_give_26 (by decide) (fun hc => ?_) (fun hc => ?_)
      · have h := h.1 hc
        refine lv_iconst (v := 0) hx hb dM_give_52 (by decide) ?_
        exact me_z hx hb hr hlk hP hS rfl h dM_give_53
      · have h := h.2 hc
        refine lv_iload_n hx hb dM_give_29 rfl (lv_at hl 2 rfl) ?_
        refine lv_if_eq (tgt := 52) hx hb dM_give_30 (by decide) (fun hc => ?_) (fun hc => ?_)
        · have h := h.1 hc
          refine lv_iconst (v := 0) hx hb dM_give_52 (by decide) ?_
          exact me_z hx hb hr hlk hP hS rfl h dM_give_53
        · have h := h.2 hc
          refine lv_aload_n hx hb dM_give_33 rfl (lv_at hl 0 rfl) ?_
          refine va_get (D := D) (ci := 6) (v := .ref (ad 14)) (C := RM) (T := TM) (N := 33) hx hb htb inM hown hK hP 0 (mw_at (by decide) (ym_0 _ _ _ _)) rfl 19 (by decide) (htb _ k2_191) (fun _ h9 => h9) rfl dM_give_34 ?_
          refine lv_bipush (v := 60) hx hb dM_give_37 (by decide) ?_
          refine lv_iload_n hx hb dM_give_39 rfl (lv_at hl 1 rfl) ?_
          refine lv_imul hx hb dM_give_40 ?_
          refine lv_aload_n hx hb dM_give_41 rfl (lv_at hl 0 rfl) ?_
          refine va_get (D := D) (ci := 6) (v := .ref (ad 2)) (C := RM) (T := TM) (N := 33) hx hb htb inM hown hK hP 0 (mw_at (by decide) (ym_0 _ _ _ _)) rfl 5 (by decide) (htb _ k2_177) (fun _ h9 => h9) rfl dM_give_42 ?_
          refine lv_iload_n hx hb dM_give_45 rfl (lv_at hl 2 rfl) ?_
          obtain ⟨hn4, h⟩ := h
          refine mr_iald hx hb hK hP 2 0 (by decide) rfl rfl hn4 dM_give_46 ?_
          refine lv_iadd hx hb dM_give_47 ?_
          obtain ⟨hn5, h⟩ := h
          refine mr_zald hx hb hK hP 14 1 (by decide) rfl rfl hn5 dM_give_48 ?_
          refine lv_if_ne (tgt := 54) hx hb dM_give_49 (by decide) (fun hc => ?_) (fun hc => ?_)
          · have h := h.1 hc
            refine lv_aload_n hx hb dM_give_54 rfl (lv_at hl 0 rfl) ?_
            refine va_get (D := D) (ci := 6) (v := .ref (ad 14)) (C := RM) (T := TM) (N := 33) hx hb htb inM hown hK hP 0 (mw_at (by decide) (ym_0 _ _ _ _)) rfl 19 (by decide) (htb _ k2_191) (fun _ h9 => h9) rfl dM_give_55 ?_
            refine lv_bipush (v := 60) hx hb dM_give_58 (by decide) ?_
            refine lv_iload_n hx hb dM_give_60 rfl (lv_at hl 1 rfl) ?_
            refine lv_imul hx hb dM_give_61 ?_
            refine lv_iload_n hx hb dM_give_62 rfl (lv_at hl 2 rfl) ?_
            refine lv_iadd hx hb dM_give_63 ?_
            refine lv_iconst (v := 1) hx hb dM_give_64 (by decide) ?_
            obtain ⟨hn6, h⟩ := h
            refine mr_zast hx hb hK hP hD hS 14 1 (by decide) (fun _ => rfl) rfl hn6 dM_give_65 (fun H locs hP hS => ?_)
            generalize heI7 : mu I0 14 ((60 * a1) + a2).toNatClampNeg (vp_nar .boolean 1) = I7 at hP
            have h := h I7 heI7.symm
            refine lv_aload_n hx hb dM_give_66 rfl (lv_at hl 0 rfl) ?_
            refine lv_iload_n hx hb dM_give_67 rfl (lv_at hl 1 rfl) ?_
            refine lv_iload_n hx hb dM_give_68 rfl (lv_at hl 2 rfl) ?_
            obtain ⟨S8, h⟩ := h
            obtain ⟨hp9, h⟩ := h
            refine mc_v (va_runV (As := [.int a1, .int a2]) (rest := []) ⟨hx, hb, hml, hown, htb⟩ (C_M_hearAll l D ca ad S8 I7 J0 a1 a2 hp9) (cwV 2 htb (gd_v k3_138 k3_140 ks33 k1_8 k3_141) rfl rfl rfl (by decide +kernel) ⟨Nat.le_of_ble_eq_true rfl, Nat.le_of_ble_eq_true rfl⟩) (mPre_V hK hP hD hN rfl (mw_at (by decide) (ym_0 _ _ _ _))) rfl rfl hl.1 rfl (lv_room (Nat.le_of_ble_eq_true rfl)) dM_give_69 ⟨Nat.le_of_ble_eq_true rfl, Nat.le_of_ble_eq_true rfl⟩) hS (fun I11 J12 H locs hpost hP hS => ?_)
            have h := h I11 J12 hpost
            refine lv_aload_n hx hb dM_give_72 rfl (lv_at hl 0 rfl) ?_
            refine lv_iload_n hx hb dM_give_73 rfl (lv_at hl 2 rfl) ?_
            obtain ⟨S13, h⟩ := h
            obtain ⟨hp14, h⟩ := h
            refine mc_v (va_runV (As := [.int a2]) (rest := []) ⟨hx, hb, hml, hown, htb⟩ (C_M_make l D ca ad S13 I11 J12 a2 hp14) (cwV 1 htb (gd_v k3_47 k3_49 ks21 k1_8 k3_50) rfl rfl rfl (by decide +kernel) ⟨Nat.le_of_ble_eq_true rfl, Nat.le_of_ble_eq_true rfl⟩) (mPre_V hK hP hD hN rfl (mw_at (by decide) (ym_0 _ _ _ _))) rfl rfl hl.1 rfl (lv_room (Nat.le_of_ble_eq_true rfl)) dM_give_74 ⟨Nat.le_of_ble_eq_true rfl, Nat.le_of_ble_eq_true rfl⟩) hS (fun I16 J17 H locs hpost hP hS => ?_)
            have h := h I16 J17 hpost
            refine lv_iconst (v := 0) hx hb dM_give_77 (by decide) ?_
            refine lv_istore_n (lv' := [(3, .int 0), (0, .ref (ad 0)), (1, .int a1), (2, .int a2)]) hx hb dM_give_78 rfl hl (by decide) rfl (fun ls hl => ?_)
            refine lv_aload_n hx hb dM_give_79 rfl (lv_at hl 1 rfl) ?_
            refine va_get (D := D) (ci := 6) (v := .int (I16 0 30)) (C := RM) (T := TM) (N := 33) hx hb htb inM hown hK hP 0 (mw_at (by decide) (ym_0 _ _ _ _)) rfl 30 (by decide) (htb _ k2_202) (fun _ h9 => h9) rfl dM_give_80 ?_
            refine lv_aload_n hx hb dM_give_83 rfl (lv_at hl 1 rfl) ?_
            refine va_get (D := D) (ci := 6) (v := .ref (ad 16)) (C := RM) (T := TM) (N := 33) hx hb htb inM hown hK hP 0 (mw_at (by decide) (ym_0 _ _ _ _)) rfl 21 (by decide) (htb _ k2_193) (fun _ h9 => h9) rfl dM_give_84 ?_
            refine lv_iconst (v := 2) hx hb dM_give_87 (by decide) ?_
            refine lv_iload_n hx hb dM_give_88 rfl (lv_at hl 2 rfl) ?_
            refine lv_imul hx hb dM_give_89 ?_
            refine lv_iconst (v := 1) hx hb dM_give_90 (by decide) ?_
            refine lv_iadd hx hb dM_give_91 ?_
            obtain ⟨hn18, h⟩ := h
            refine mr_iald hx hb hK hP 16 0 (by decide) rfl rfl hn18 dM_give_92 ?_
            refine lv_icmp_le (tgt := 214) hx hb dM_give_93 (by decide) (fun hc => ?_) (fun hc => ?_)
            · have h := h.1 hc
              refine lv_iload_n hx hb dM_give_214 rfl (lv_at hl 0 rfl) ?_
              refine lv_if_ne (tgt := 233) hx hb dM_give_215 (by decide) (fun hc => ?_) (fun hc => ?_)
              · first | exact absurd hc (by decide) | exact absurd (by decide) hc
              · skip
                refine lv_aload_n hx hb dM_give_218 rfl (lv_at hl 1 rfl) ?_
                refine va_get (D := D) (ci := 6) (v := .int (I16 0 28)) (C := RM) (T := TM) (N := 33) hx hb htb inM hown hK hP 0 (mw_at (by decide) (ym_0 _ _ _ _)) rfl 28 (by decide) (htb _ k2_200) (fun _ h9 => h9) rfl dM_give_219 ?_
                refine lv_aload_n hx hb dM_give_222 rfl (lv_at hl 1 rfl) ?_
                refine va_get (D := D) (ci := 6) (v := .ref (ad 16)) (C := RM) (T := TM) (N := 33) hx hb htb inM hown hK hP 0 (mw_at (by decide) (ym_0 _ _ _ _)) rfl 21 (by decide) (htb _ k2_193) (fun _ h9 => h9) rfl dM_give_223 ?_
                refine lv_iconst (v := 2) hx hb dM_give_226 (by decide) ?_
                refine lv_iload_n hx hb dM_give_227 rfl (lv_at hl 2 rfl) ?_
                refine lv_imul hx hb dM_give_228 ?_
                obtain ⟨hn19, h⟩ := h
                refine mr_iald hx hb hK hP 16 0 (by decide) rfl rfl hn19 dM_give_229 ?_
                refine lv_icmp_le (tgt := 257) hx hb dM_give_230 (by decide) (fun hc => ?_) (fun hc => ?_)
                · have h := h.1 hc
                  refine lv_iconst (v := 1) hx hb dM_give_257 (by decide) ?_
                  exact me_z hx hb hr hlk hP hS rfl h dM_give_258
                · have h := h.2 hc
                  refine lv_aload_n hx hb dM_give_233 rfl (lv_at hl 1 rfl) ?_
                  refine va_get (D := D) (ci := 6) (v := .ref (ad 16)) (C := RM) (T := TM) (N := 33) hx hb htb inM hown hK hP 0 (mw_at (by decide) (ym_0 _ _ _ _)) rfl 21 (by decide) (htb _ k2_193) (fun _ h9 => h9) rfl dM_give_234 ?_
                  refine lv_iconst (v := 2) hx hb dM_give_237 (by decide) ?_
                  refine lv_iload_n hx hb dM_give_238 rfl (lv_at hl 2 rfl) ?_
                  refine lv_imul hx hb dM_give_239 ?_
                  refine lv_aload_n hx hb dM_give_240 rfl (lv_at hl 1 rfl) ?_
                  refine va_get (D := D) (ci := 6) (v := .int (I16 0 28)) (C := RM) (T := TM) (N := 33) hx hb htb inM hown hK hP 0 (mw_at (by decide) (ym_0 _ _ _ _)) rfl 28 (by decide) (htb _ k2_200) (fun _ h9 => h9) rfl dM_give_241 ?_
                  obtain ⟨hn20, h⟩ := h
                  refine mr_iast hx hb hK hP hD hS 16 0 (by decide) (fun _ => rfl) rfl hn20 dM_give_244 (fun H locs hP hS => ?_)
                  generalize heI21 : mu I16 16 (2 * a1).toNatClampNeg (I16 0 28) = I21 at hP
                  have h := h I21 heI21.symm
                  refine lv_aload_n hx hb dM_give_245 rfl (lv_at hl 1 rfl) ?_
                  refine va_get (D := D) (ci := 6) (v := .ref (ad 17)) (C := RM) (T := TM) (N := 33) hx hb htb inM hown hK hP 0 (mw_at (by decide) (ym_0 _ _ _ _)) rfl 22 (by decide) (htb _ k2_194) (fun _ h9 => h9) rfl dM_give_246 ?_
                  refine lv_iconst (v := 2) hx hb dM_give_249 (by decide) ?_
                  refine lv_iload_n hx hb dM_give_250 rfl (lv_at hl 2 rfl) ?_
                  refine lv_imul hx hb dM_give_251 ?_
                  refine lv_aload_n hx hb dM_give_252 rfl (lv_at hl 1 rfl) ?_
                  refine va_get (D := D) (ci := 6) (v := .int (I21 0 29)) (C := RM) (T := TM) (N := 33) hx hb htb inM hown hK hP 0 (mw_at (by decide) (ym_0 _ _ _ _)) rfl 29 (by decide) (htb _ k2_201) (fun _ h9 => h9) rfl dM_give_253 ?_
                  obtain ⟨hn22, h⟩ := h
                  refine mr_iast hx hb hK hP hD hS 17 0 (by decide) (fun _ => rfl) rfl hn22 dM_give_256 (fun H locs hP hS => ?_)
                  generalize heI23 : mu I21 17 (2 * a1).toNatClampNeg (I21 0 29) = I23 at hP
                  have h := h I23 heI23.symm
                  refine lv_iconst (v := 1) hx hb dM_give_257 (by decide) ?_
                  exact me_z hx hb hr hlk hP hS rfl h dM_give_258
            · have h := h.2 hc
              refine lv_aload_n hx hb dM_give_96 rfl (lv_at hl 1 rfl) ?_
              refine va_get (D := D) (ci := 6) (v := .ref (ad 16)) (C := RM) (T := TM) (N := 33) hx hb htb inM hown hK hP 0 (mw_at (by decide) (ym_0 _ _ _ _)) rfl 21 (by decide) (htb _ k2_193) (fun _ h9 => h9) rfl dM_give_97 ?_
              refine lv_iconst (v := 2) hx hb dM_give_100 (by decide) ?_
              refine lv_iload_n hx hb dM_give_101 rfl (lv_at hl 2 rfl) ?_
              refine lv_imul hx hb dM_give_102 ?_
              refine lv_iconst (v := 1) hx hb dM_give_103 (by decide) ?_
              refine lv_iadd hx hb dM_give_104 ?_
              refine lv_aload_n hx hb dM_give_105 rfl (lv_at hl 1 rfl) ?_
              refine va_get (D := D) (ci := 6) (v := .int (I16 0 30)) (C := RM) (T := TM) (N := 33) hx hb htb inM hown hK hP 0 (mw_at (by decide) (ym_0 _ _ _ _)) rfl 30 (by decide) (htb _ k2_202) (fun _ h9 => h9) rfl dM_give_106 ?_
              obtain ⟨hn24, h⟩ := h
              refine mr_iast hx hb hK hP hD hS 16 0 (by decide) (fun _ => rfl) rfl hn24 dM_give_109 (fun H locs hP hS => ?_)
              generalize heI25 : mu I16 16 ((2 * a1) + 1).toNatClampNeg (I16 0 30) = I25 at hP
              have h := h I25 heI25.symm
              refine lv_aload_n hx hb dM_give_110 rfl (lv_at hl 1 rfl) ?_
              refine va_get (D := D) (ci := 6) (v := .ref (ad 17)) (C := RM) (T := TM) (N := 33) hx hb htb inM hown hK hP 0 (mw_at (by decide) (ym_0 _ _ _ _)) rfl 22 (by decide) (htb _ k2_194) (fun _ h9 => h9) rfl dM_give_111 ?_
              refine lv_iconst (v := 2) hx hb dM_give_114 (by decide) ?_
              refine lv_iload_n hx hb dM_give_115 rfl (lv_at hl 2 rfl) ?_
              refine lv_imul hx hb dM_give_116 ?_
              refine lv_iconst (v := 1) hx hb dM_give_117 (by decide) ?_
              refine lv_iadd hx hb dM_give_118 ?_
              refine lv_aload_n hx hb dM_give_119 rfl (lv_at hl 1 rfl) ?_
              refine va_get (D := D) (ci := 6) (v := .int (I25 0 31)) (C := RM) (T := TM) (N := 33) hx hb htb inM hown hK hP 0 (mw_at (by decide) (ym_0 _ _ _ _)) rfl 31 (by decide) (htb _ k2_203) (fun _ h9 => h9) rfl dM_give_120 ?_
              obtain ⟨hn26, h⟩ := h
              refine mr_iast hx hb hK hP hD hS 17 0 (by decide) (fun _ => rfl) rfl hn26 dM_give_123 (fun H locs hP hS => ?_)
              generalize heI27 : mu I25 17 ((2 * a1) + 1).toNatClampNeg (I25 0 31) = I27 at hP
              have h := h I27 heI27.symm
              refine lv_iconst (v := 0) hx hb dM_give_124 (by decide) ?_
              refine lv_istore (lv' := [(4, .int 0), (3, .int 0), (0, .ref (ad 0)), (1, .int a1), (2, .int a2)]) hx hb dM_give_125 hl (by decide) rfl (fun ls hl => ?_)
              rw [hK127] at h
              exact h _ _ _ hP hS (lv_sub hl [2, 3, 0] rfl)
          · have h := h.2 hc
            refine lv_iconst (v := 0) hx hb dM_give_52 (by decide) ?_
            exact me_z hx hb hr hlk hP hS rfl h dM_give_53
