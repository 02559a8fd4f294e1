def qS_copyFrom (I : mI) (J : mJ) (j k : Nat) (I' : mI) (J' : mJ) : Prop := J' = J ∧ (∀ a, a ≠ j → a ≠ j + 1 → I' a = I a) ∧ (∀ v, v < 7 → I' (j + 1) v = I (k + 1) v) ∧ ∀ c, 1 ≤ c → c ≤ 6 → I' j c = I k c
theorem cpy_X {I I' : mI} {J J' : mJ} {j k : Nat} {q : sg} (h : qS_copyFrom I J j k I' J') (hq : xE q I k) : xE q I' j := by
  obtain ⟨-, -, h1, h2⟩ := h
  unfold xE at hq ⊢
  rw [h2 1 (by omega) (by omega), h2 2 (by omega) (by omega), h2 3 (by omega) (by omega), h2 4 (by omega) (by omega), h2 5 (by omega) (by omega), h2 6 (by omega) (by omega)]
  exact ⟨fun v hv => by rw [h1 v hv]; exact hq.1 v hv, hq.2⟩
def pS_passTo (I : mI) (_ : mJ) (j : Nat) (a b : Int32) : Prop := ∃ q e n, xE q I j ∧ a = nI e ∧ b = nI n ∧ n ≤ 7 ∧ e ≤ 240 ∧ gE q ≤ e
def qS_passTo (I : mI) (J : mJ) (j : Nat) (a b : Int32) (I' : mI) (J' : mJ) : Prop := J' = J ∧ (∀ x, x ≠ j → x ≠ j + 1 → I' x = I x) ∧ ∀ q, xE q I j → gE q ≤ cN a → xE (gTo (cN b) q (cN a)) I' j
theorem gAdv_s (n : Nat) : ∀ k q, gAdv n (k + 1) q = gStep n (gAdv n k q) := by
  intro k
  induction k with
  | zero => intro q; rfl
  | succ k ih =>
    intro q
    show gAdv n (k + 1) (gStep n q) = gStep n (gAdv n k (gStep n q))
    exact ih (gStep n q)
theorem step_X {I I1 I2 I3 : mI} {j n : Nat} {q : sg} (hn : n ≤ 7) (hq : xE q I j) (h1 : ∀ a, a ≠ j + 1 → I1 a = I a) (hb : ∀ w, w < 7 → I1 (j + 1) w = if w < n ∧ bt (I j 5) w = false ∧ 0 < I (j + 1) w then I (j + 1) w - 1 else I (j + 1) w) (h2 : I2 = mu I1 j 6 (I1 j 5)) (h3 : I3 = mu (mu I2 j 5 0) j 4 (I j 4 + 1)) : xE (gStep n q) I3 j := by
  obtain ⟨q1, q2, q3, q4, q5, q6, q7⟩ := hq
  have r1 : I1 j = I j := h1 j (by omega)
  have p : ∀ k, I3 j k = if k = 4 then I j 4 + 1 else if k = 5 then 0 else if k = 6 then I j 5 else I j k := fun k => by
    rw [h3, mu_self]
    unfold upd
    by_cases e4 : k = 4
    · rw [if_pos e4, if_pos e4]
    · rw [if_neg e4, if_neg e4, mu_self]
      unfold upd
      by_cases e5 : k = 5
      · rw [if_pos e5, if_pos e5]
      · rw [if_neg e5, if_neg e5, h2, mu_self]
        unfold upd
        rw [r1]
  have r : I3 (j + 1) = I1 (j + 1) := by rw [h3, mu_other _ _ _ (by omega), mu_other _ _ _ (by omega), h2, mu_other _ _ _ (by omega)]
  refine ⟨fun v hv => ?_, fun v hv => ?_, ?_, ?_, ?_, fun v hv => ?_, fun v hv => ?_⟩
  · rw [r, hb v hv, q1 v hv, q6 v hv]
    rfl
  · rw [p]
    exact q2 v hv
  · rw [p]; exact q3
  · rw [p]; exact q4
  · rw [p]
    show I j 4 + 1 = nI (gE q + 1)
    rw [q5, nI_1]
  · rw [p]
    show bt 0 v = false
    exact b_0 v
  · rw [p]
    show bt (I j 5) v = gN q v
    exact q6 v hv
def qS_addCounted (I : mI) (J : mJ) (j : Nat) (e v : Int32) (I' : mI) (J' : mJ) : Prop := J' = J ∧ I' = (if e = I j 4 then mu I j 5 (I j 5 ||| ((1 : Int32) <<< (v &&& 31))) else mu I j 6 (I j 6 ||| ((1 : Int32) <<< (v &&& 31))))
def qS_justify (I : mI) (J : mJ) (j : Nat) (s t : Int32) (I' : mI) (J' : mJ) : Prop := J' = J ∧ I' = mu (mu (mu (if fEp s = fEp t - 1 then mu I j 3 s else I) j 2 t) j 5 0) j 6 0
def qI_copyFrom (I : mI) (J : mJ) (j k : Nat) (I' : mI) (J' : mJ) : Prop := J' = J ∧ (∀ a, a ≠ j → a ≠ j + 1 → a ≠ j + 2 → I' a = I a) ∧ I' j 2 = I k 2 ∧ ∀ i, i < 4 → I' (j + 1) i = I (k + 1) i ∧ I' (j + 2) i = I (k + 2) i
def gEvp (q : sg) (v p : Nat) : sg := (gE q, upd (upd (gB q) v (gB q v / 2)) p (upd (gB q) v (gB q v / 2) p + 5), bU (gP q) v, gN q, gO q, gJe q, gJb q, gFe q, gFb q)
def pF_takeEvidence (_ : mI) (_ : mJ) (a b : Int32) : Prop := ∃ v p, v < 7 ∧ p < 7 ∧ a = nI v ∧ b = nI p
def qF_takeEvidence (I : mI) (J : mJ) (a b : Int32) (r : Int32) (I' : mI) (J' : mJ) : Prop := J' = J ∧ (∀ x, x ≠ 457 → x ≠ 457 + 1 → I' x = I x) ∧ (r = 0 ∨ r = 1) ∧ ∀ q, xE q I 457 → (gP q (cN a) = false → r = 1 ∧ xE (gEvp q (cN a) (cN b)) I' 457) ∧ (gP q (cN a) = true → r = 0)
theorem i7_of {v : Nat} (h : v < 7) : vp_in (nI v) 7 := vp_in_nI h (by omega)
/-- the slot and its epoch -/
def iS (x : Int32) : Prop := ∃ s, 1 ≤ s ∧ s ≤ 240 ∧ x = nI s
def pF_takeVote (S I : mI) (J : mJ) (j : Nat) (p s : Int32) : Prop := XR S I J ∧ (∃ i, i < zVc S ∧ j = 364 + i) ∧ iB S p ∧ iS s ∧ ∃ q, xE q I 457 ∧ gE q = cN s / zLn S
def qF_takeVote (S I : mI) (J : mJ) (j : Nat) (p s : Int32) (r : Int32) (I' : mI) (J' : mJ) : Prop := J' = J ∧ (∀ x, x ≠ 457 → x ≠ 457 + 1 → I' x = I x) ∧ (r = 0 ∨ r = 1) ∧ ∀ q, xE q I 457 → gW (zNv S) (zBc S) q → gE q = cN s / zLn S → (gOk S q (cN p) (cN s) (j - 364) → r = 1 ∧ xE (gCnt S q (cN s) (j - 364)) I' 457) ∧ (¬ gOk S q (cN p) (cN s) (j - 364) → r = 0)
def pF_takeItem (S I : mI) (J : mJ) (k p s : Int32) : Prop := XR S I J ∧ (∃ i, i < zPc S ∧ k = nI i) ∧ iB S p ∧ iS s ∧ ∃ q, xE q I 457 ∧ gE q = cN s / zLn S
def qF_takeItem (S I : mI) (J : mJ) (k p s : Int32) (r : Int32) (I' : mI) (J' : mJ) : Prop := J' = J ∧ (∀ x, x ≠ 457 → x ≠ 457 + 1 → I' x = I x) ∧ (r = 0 ∨ r = 1) ∧ ∀ q, xE q I 457 → gW (zNv S) (zBc S) q → gE q = cN s / zLn S → (gFit S q (cN p) (cN s) (zNi S (cN k)) → r = 1 ∧ xE (gItem S q (cN p) (cN s) (zNi S (cN k))) I' 457) ∧ (¬ gFit S q (cN p) (cN s) (zNi S (cN k)) → r = 0)
theorem sub_le {s l v : Nat} (hs : s < 2 ^ 30) (hl : l < 2 ^ 30) (hv : v < 2 ^ 30) : nI s - nI l ≤ nI v ↔ s ≤ v + l := by
  rw [Int32.le_iff_toInt_le, pk_sub_toInt hs hl, nI_toInt (by omega)]
  omega
theorem eq_pred {a b : Nat} (ha : a < 2 ^ 30) (hb : b < 2 ^ 30) : nI a = nI b - 1 ↔ a + 1 = b := by
  constructor
  · intro h
    have h2 := congrArg Int32.toInt h
    rw [show (1 : Int32) = nI 1 from rfl, pk_sub_toInt hb (by omega), nI_toInt (by omega)] at h2
    omega
  · intro h
    subst h
    rw [nI_pred]
theorem XR.tot {S I : mI} {J : mJ} (h : XR S I J) : I 0 3 = S 0 3 := h.2.1.2.2.1
def qF_vote (S _I : mI) (_ : mJ) (v h s : Int32) (r : Int32) (I' : mI) (J' : mJ) : Prop := r = (oVote S v h s).1 ∧ XR (oVote S v h s).2 I' J'
def pX3 (S I : mI) (J : mJ) (_ _ _ : Int32) : Prop := XR S I J
def qF_propose (S _I : mI) (_ : mJ) (p s : Int32) (r : Int32) (I' : mI) (J' : mJ) : Prop := r = (oPro S p s).1 ∧ XR (oPro S p s).2 I' J'
theorem cpy7 (f g : Nat → Int32) {v : Nat} (h : v < 7) : va_cpy f g (0 : Int32).toNatClampNeg (0 : Int32).toNatClampNeg (7 : Int32).toNatClampNeg v = f v := by
  show va_cpy f g 0 0 7 v = f v
  rw [pk_cpy_in (by omega) (by omega)]
  congr 1
  omega
theorem cpy4 (f g : Nat → Int32) {v : Nat} (h : v < 4) : va_cpy f g (0 : Int32).toNatClampNeg (0 : Int32).toNatClampNeg (4 : Int32).toNatClampNeg v = f v := by
  show va_cpy f g 0 0 4 v = f v
  rw [pk_cpy_in (by omega) (by omega)]
  congr 1
  omega

def wp_S_copyFrom (R : mI → mJ → Prop) (I0 : mI) (J0 : mJ) (jT : Nat) (j1 : Nat) : Prop :=
  (∀ (I1 : mI), I1 = mrow I0 (jT + 1) (va_cpy (I0 (j1 + 1)) (I0 (jT + 1)) (0 : Int32).toNatClampNeg (0 : Int32).toNatClampNeg (7 : Int32).toNatClampNeg) → (∀ (I2 : mI), I2 = mu I1 jT 1 (I1 j1 1) → (∀ (I3 : mI), I3 = mu I2 jT 2 (I2 j1 2) → (∀ (I4 : mI), I4 = mu I3 jT 3 (I3 j1 3) → (∀ (I5 : mI), I5 = mu I4 jT 4 (I4 j1 4) → (∀ (I6 : mI), I6 = mu I5 jT 5 (I5 j1 5) → (∀ (I7 : mI), I7 = mu I6 jT 6 (I6 j1 6) → R I7 J0)))))))
theorem P_S_copyFrom (I0 : mI) (J0 : mJ) (jT : Nat) (j1 : Nat) (hkT : xk jT = 6) (hk1 : xk j1 = 6)   (R : mI → mJ → Prop)  (hR : ∀ (I' : mI) (J' : mJ), qS_copyFrom I0 J0 jT j1 I' J' → R I' J') : wp_S_copyFrom R I0 J0 jT j1 := by
  have n1 : j1 ≠ jT + 1 := fun e => by
    have := xk_SB hkT
    rw [← e, hk1] at this
    exact absurd this (by decide)
  unfold wp_S_copyFrom
  intro I1 e1 I2 e2 I3 e3 I4 e4 I5 e5 I6 e6 I7 e7
  apply hR
  have r1 : I1 j1 = I0 j1 := by rw [e1]; exact mrow_other _ _ n1
  have p1 : I1 jT = I0 jT := by rw [e1]; exact mrow_other _ _ (by omega)
  have v2 : I1 j1 1 = I0 j1 1 := by rw [r1]
  have v3 : I2 j1 2 = I0 j1 2 := by rw [e2, mu_at, if_neg (by omega), r1]
  have v4 : I3 j1 3 = I0 j1 3 := by rw [e3, mu_at, if_neg (by omega), e2, mu_at, if_neg (by omega), r1]
  have v5 : I4 j1 4 = I0 j1 4 := by rw [e4, mu_at, if_neg (by omega), e3, mu_at, if_neg (by omega), e2, mu_at, if_neg (by omega), r1]
  have v6 : I5 j1 5 = I0 j1 5 := by rw [e5, mu_at, if_neg (by omega), e4, mu_at, if_neg (by omega), e3, mu_at, if_neg (by omega), e2, mu_at, if_neg (by omega), r1]
  have v7 : I6 j1 6 = I0 j1 6 := by rw [e6, mu_at, if_neg (by omega), e5, mu_at, if_neg (by omega), e4, mu_at, if_neg (by omega), e3, mu_at, if_neg (by omega), e2, mu_at, if_neg (by omega), r1]
  rw [v2] at e2
  rw [v3] at e3
  rw [v4] at e4
  rw [v5] at e5
  rw [v6] at e6
  rw [v7] at e7
  have oth : ∀ a, a ≠ jT → I7 a = I1 a := fun a ha => by rw [e7, mu_other _ _ _ ha, e6, mu_other _ _ _ ha, e5, mu_other _ _ _ ha, e4, mu_other _ _ _ ha, e3, mu_other _ _ _ ha, e2, mu_other _ _ _ ha]
  refine ⟨rfl, fun a h1 h2 => ?_, fun v hv => ?_, fun c h1 h2 => ?_⟩
  · rw [oth a h1, e1]; exact mrow_other _ _ h2
  · rw [oth _ (by omega), e1, mrow_self]; exact cpy7 _ _ hv
  · have hc : c = 1 ∨ c = 2 ∨ c = 3 ∨ c = 4 ∨ c = 5 ∨ c = 6 := by omega
    rcases hc with rfl | rfl | rfl | rfl | rfl | rfl
    · rw [e7, mu_at, if_neg (by omega), e6, mu_at, if_neg (by omega), e5, mu_at, if_neg (by omega), e4, mu_at, if_neg (by omega), e3, mu_at, if_neg (by omega), e2, mu_at, if_pos ⟨rfl, rfl⟩]
    · rw [e7, mu_at, if_neg (by omega), e6, mu_at, if_neg (by omega), e5, mu_at, if_neg (by omega), e4, mu_at, if_neg (by omega), e3, mu_at, if_pos ⟨rfl, rfl⟩]
    · rw [e7, mu_at, if_neg (by omega), e6, mu_at, if_neg (by omega), e5, mu_at, if_neg (by omega), e4, mu_at, if_pos ⟨rfl, rfl⟩]
    · rw [e7, mu_at, if_neg (by omega), e6, mu_at, if_neg (by omega), e5, mu_at, if_pos ⟨rfl, rfl⟩]
    · rw [e7, mu_at, if_neg (by omega), e6, mu_at, if_pos ⟨rfl, rfl⟩]
    · rw [e7, mu_at, if_pos ⟨rfl, rfl⟩]
set_option maxHeartbeats 4000000 in
set_option maxRecDepth 100000 in
theorem C_S_copyFrom (l : Launch) (D : va_G) (ca : Nat → Nat) (ad : Nat → Nat) (I0 : mI) (J0 : mJ) (jT : Nat) (j1 : Nat) (hkT : xk jT = 6) (hk1 : xk j1 = 6)  : Met l yS_copyFrom wS_copyFrom ({ frames := 1, cells := 0, slots := 0, locals := 40 } : Room) (va_Pc [.ref (ad jT), .ref (ad j1)] (mPre D vwCl (xty ca) 459 ad (xmk ca ad) nL I0 J0)) (mQv D vwCl 459 ad (xmk ca ad) (qS_copyFrom I0 J0 jT j1)) 0 0 (mA 459 ad) := by
  refine Met.ofW (cc := cS_copyFrom) (maxL := 2) (ret := none) (by decide) rfl ?_
  intro p e s m args below meth c s₁ B hml hv
  obtain ⟨rfl, hP, hK, hD0, hN⟩ := hv
  have hx := B.exec
  have hb := B.bytes
  have hr := B.returns
  have htb : ∀ w ∈ wb, w.before _ s = true := fun w h => atoms_spec (ws := wS_copyFrom) B.pre w (List.mem_cons_of_mem _ h)
  have hown : s.vm.findClass RS = some m.cls := findClass_of_methodNamed B.named
  have hlk := B.notSynchronized
  have hD := mw_Dm hD0
  have hS : va_S (mA 459 ad) s.heap s.heap [] := va_S.rf
  have hl := lv_entry ([.ref (ad jT), .ref (ad j1)]) (n := 2) (Nat.le_of_ble_eq_true rfl)
  rw [lg_entry_eq]
  generalize (lg_sl ([.ref (ad jT), .ref (ad j1)]) ++ List.replicate (2 - (lg_sl ([.ref (ad jT), .ref (ad j1)])).length) Slot.unset).toArray = ls at hl ⊢
  have hl : lv_has ls 2 [(0, .ref (ad jT)), (1, .ref (ad j1))] := hl
  have h := P_S_copyFrom I0 J0 jT j1 hkT hk1   (qS_copyFrom I0 J0 jT j1)  (fun _ _ h => h)
  unfold wp_S_copyFrom at h
  refine lv_aload_n hx hb dS_copyFrom_0 rfl (lv_at hl 1 rfl) ?_
  refine va_get (D := D) (ci := 3) (v := .ref (ad (j1 + 1))) (C := RS) (T := TS) (N := 7) hx hb htb inS hown hK hP j1 (mw_at (xk_lt hk1 (by decide)) (xm_S hk1 _ _)) rfl 0 (by decide) (htb _ k1_57) (fun _ h9 => h9) rfl dS_copyFrom_1 ?_
  refine lv_iconst (v := 0) hx hb dS_copyFrom_4 (by decide) ?_
  refine lv_aload_n hx hb dS_copyFrom_5 rfl (lv_at hl 0 rfl) ?_
  refine va_get (D := D) (ci := 3) (v := .ref (ad (jT + 1))) (C := RS) (T := TS) (N := 7) hx hb htb inS hown hK hP jT (mw_at (xk_lt hkT (by decide)) (xm_S hkT _ _)) rfl 0 (by decide) (htb _ k1_57) (fun _ h9 => h9) rfl dS_copyFrom_6 ?_
  refine lv_iconst (v := 0) hx hb dS_copyFrom_9 (by decide) ?_
  refine lv_bipush (v := 7) hx hb dS_copyFrom_10 (by decide) ?_
  refine mr_copyi hx hb (by rw [hml]; exact hl.1.symm) hown (htb _ k2_26) (htb _ k2_28) (htb _ k2_27) (htb _ k1_9) hK hP hD hS (j1 + 1) (jT + 1) 0 (xk_lt (xk_SB hk1) (by decide)) (xk_lt (xk_SB hkT) (by decide)) (xm_7 (xk_SB hk1) _ _) (fun f => xm_7 (xk_SB hkT) f _) rfl (by decide) (by decide) (by decide) (by decide) (by decide) (Nat.le_of_ble_eq_true rfl) (Nat.le_of_ble_eq_true rfl) dS_copyFrom_12 (fun H locs hP hS => ?_)
  generalize heI1 : mrow I0 (jT + 1) (va_cpy (I0 (j1 + 1)) (I0 (jT + 1)) (0 : Int32).toNatClampNeg (0 : Int32).toNatClampNeg (7 : Int32).toNatClampNeg) = I1 at hP
  have h := h I1 heI1.symm
  refine lv_aload_n hx hb dS_copyFrom_15 rfl (lv_at hl 0 rfl) ?_
  refine lv_aload_n hx hb dS_copyFrom_16 rfl (lv_at hl 1 rfl) ?_
  refine va_get (D := D) (ci := 3) (v := .int (I1 j1 1)) (C := RS) (T := TS) (N := 7) hx hb htb inS hown hK hP j1 (mw_at (xk_lt hk1 (by decide)) (xm_S hk1 _ _)) rfl 1 (by decide) (htb _ k1_59) (fun _ h9 => h9) rfl dS_copyFrom_17 ?_
  refine mr_puti hx hb htb inS tyS tyS_ok nmS hown hK hP hD hS jT (xk_lt hkT (by decide)) (xm_S hkT _ _) rfl 1 (by decide) (htb _ k1_59) (fun _ h9 => h9) rfl (by decide +kernel) (Nat.le_of_ble_eq_true rfl) (xm_S hkT _ _) dS_copyFrom_20 (fun H locs hP hS => ?_)
  generalize heI2 : mu I1 jT 1 (I1 j1 1) = I2 at hP
  have h := h I2 heI2.symm
  refine lv_aload_n hx hb dS_copyFrom_23 rfl (lv_at hl 0 rfl) ?_
  refine lv_aload_n hx hb dS_copyFrom_24 rfl (lv_at hl 1 rfl) ?_
  refine va_get (D := D) (ci := 3) (v := .int (I2 j1 2)) (C := RS) (T := TS) (N := 7) hx hb htb inS hown hK hP j1 (mw_at (xk_lt hk1 (by decide)) (xm_S hk1 _ _)) rfl 2 (by decide) (htb _ k1_61) (fun _ h9 => h9) rfl dS_copyFrom_25 ?_
  refine mr_puti hx hb htb inS tyS tyS_ok nmS hown hK hP hD hS jT (xk_lt hkT (by decide)) (xm_S hkT _ _) rfl 2 (by decide) (htb _ k1_61) (fun _ h9 => h9) rfl (by decide +kernel) (Nat.le_of_ble_eq_true rfl) (xm_S hkT _ _) dS_copyFrom_28 (fun H locs hP hS => ?_)
  generalize heI3 : mu I2 jT 2 (I2 j1 2) = I3 at hP
  have h := h I3 heI3.symm
  refine lv_aload_n hx hb dS_copyFrom_31 rfl (lv_at hl 0 rfl) ?_
  refine lv_aload_n hx hb dS_copyFrom_32 rfl (lv_at hl 1 rfl) ?_
  refine va_get (D := D) (ci := 3) (v := .int (I3 j1 3)) (C := RS) (T := TS) (N := 7) hx hb htb inS hown hK hP j1 (mw_at (xk_lt hk1 (by decide)) (xm_S hk1 _ _)) rfl 3 (by decide) (htb _ k1_63) (fun _ h9 => h9) rfl dS_copyFrom_33 ?_
  refine mr_puti hx hb htb inS tyS tyS_ok nmS hown hK hP hD hS jT (xk_lt hkT (by decide)) (xm_S hkT _ _) rfl 3 (by decide) (htb _ k1_63) (fun _ h9 => h9) rfl (by decide +kernel) (Nat.le_of_ble_eq_true rfl) (xm_S hkT _ _) dS_copyFrom_36 (fun H locs hP hS => ?_)
  generalize heI4 : mu I3 jT 3 (I3 j1 3) = I4 at hP
  have h := h I4 heI4.symm
  refine lv_aload_n hx hb dS_copyFrom_39 rfl (lv_at hl 0 rfl) ?_
  refine lv_aload_n hx hb dS_copyFrom_40 rfl (lv_at hl 1 rfl) ?_
  refine va_get (D := D) (ci := 3) (v := .int (I4 j1 4)) (C := RS) (T := TS) (N := 7) hx hb htb inS hown hK hP j1 (mw_at (xk_lt hk1 (by decide)) (xm_S hk1 _ _)) rfl 4 (by decide) (htb _ k1_65) (fun _ h9 => h9) rfl dS_copyFrom_41 ?_
  refine mr_puti hx hb htb inS tyS tyS_ok nmS hown hK hP hD hS jT (xk_lt hkT (by decide)) (xm_S hkT _ _) rfl 4 (by decide) (htb _ k1_65) (fun _ h9 => h9) rfl (by decide +kernel) (Nat.le_of_ble_eq_true rfl) (xm_S hkT _ _) dS_copyFrom_44 (fun H locs hP hS => ?_)
  generalize heI5 : mu I4 jT 4 (I4 j1 4) = I5 at hP
  have h := h I5 heI5.symm
  refine lv_aload_n hx hb dS_copyFrom_47 rfl (lv_at hl 0 rfl) ?_
  refine lv_aload_n hx hb dS_copyFrom_48 rfl (lv_at hl 1 rfl) ?_
  refine va_get (D := D) (ci := 3) (v := .int (I5 j1 5)) (C := RS) (T := TS) (N := 7) hx hb htb inS hown hK hP j1 (mw_at (xk_lt hk1 (by decide)) (xm_S hk1 _ _)) rfl 5 (by decide) (htb _ k1_66) (fun _ h9 => h9) rfl dS_copyFrom_49 ?_
  refine mr_puti hx hb htb inS tyS tyS_ok nmS hown hK hP hD hS jT (xk_lt hkT (by decide)) (xm_S hkT _ _) rfl 5 (by decide) (htb _ k1_66) (fun _ h9 => h9) rfl (by decide +kernel) (Nat.le_of_ble_eq_true rfl) (xm_S hkT _ _) dS_copyFrom_52 (fun H locs hP hS => ?_)
  generalize heI6 : mu I5 jT 5 (I5 j1 5) = I6 at hP
  have h := h I6 heI6.symm
  refine lv_aload_n hx hb dS_copyFrom_55 rfl (lv_at hl 0 rfl) ?_
  refine lv_aload_n hx hb dS_copyFrom_56 rfl (lv_at hl 1 rfl) ?_
  refine va_get (D := D) (ci := 3) (v := .int (I6 j1 6)) (C := RS) (T := TS) (N := 7) hx hb htb inS hown hK hP j1 (mw_at (xk_lt hk1 (by decide)) (xm_S hk1 _ _)) rfl 6 (by decide) (htb _ k1_67) (fun _ h9 => h9) rfl dS_copyFrom_57 ?_
  refine mr_puti hx hb htb inS tyS tyS_ok nmS hown hK hP hD hS jT (xk_lt hkT (by decide)) (xm_S hkT _ _) rfl 6 (by decide) (htb _ k1_67) (fun _ h9 => h9) rfl (by decide +kernel) (Nat.le_of_ble_eq_true rfl) (xm_S hkT _ _) dS_copyFrom_60 (fun H locs hP hS => ?_)
  generalize heI7 : mu I6 jT 6 (I6 j1 6) = I7 at hP
  have h := h I7 heI7.symm
  exact me_v hx hb hr hlk hP hS h dS_copyFrom_63
def wp_S_passTo_0 (K0 : mI → mJ → Prop) (K10 : mI → mJ → Int32 → Prop) (R : mI → mJ → Prop) (I : mI) (J : mJ) (jT : Nat) (a1 : Int32) (a2 : Int32)  : Prop :=
  ((a1 ≤ (I jT 4) → R I J) ∧ (¬ (a1 ≤ (I jT 4)) → K10 I J 0))
def wp_S_passTo_10 (K0 : mI → mJ → Prop) (K10 : mI → mJ → Int32 → Prop) (R : mI → mJ → Prop) (I : mI) (J : mJ) (jT : Nat) (a1 : Int32) (a2 : Int32) (x3 : Int32) : Prop :=
  ((a2 ≤ x3 → (∀ (I1 : mI), I1 = mu I jT 6 (I jT 5) → (∀ (I2 : mI), I2 = mu I1 jT 5 0 → (∀ (I3 : mI), I3 = mu I2 jT 4 ((I2 jT 4) + 1) → K0 I3 J)))) ∧ (¬ (a2 ≤ x3) → ((¬ ((fF_isIn I J (I jT 5) x3) = 0) → K10 I J (x3 + 1)) ∧ ((fF_isIn I J (I jT 5) x3) = 0 → (vp_in x3 7 ∧ (((I (jT + 1) x3.toNatClampNeg) ≤ 0 → K10 I J (x3 + 1)) ∧ (¬ ((I (jT + 1) x3.toNatClampNeg) ≤ 0) → (vp_in x3 7 ∧ (vp_in x3 7 ∧ (∀ (I8 : mI), I8 = mu I (jT + 1) x3.toNatClampNeg ((I (jT + 1) x3.toNatClampNeg) - 1) → K10 I8 J (x3 + 1)))))))))))
def wp_S_passTo (K0 : mI → mJ → Prop) (K10 : mI → mJ → Int32 → Prop) (R : mI → mJ → Prop) (I0 : mI) (J0 : mJ) (jT : Nat) (a1 : Int32) (a2 : Int32) : Prop :=
  K0 I0 J0
theorem P_S_passTo (I0 : mI) (J0 : mJ) (jT : Nat) (a1 : Int32) (a2 : Int32) (hkT : xk jT = 6) (hp : pS_passTo I0 J0 jT a1 a2) (K0 : mI → mJ → Prop) (K10 : mI → mJ → Int32 → Prop) (R : mI → mJ → Prop) (c0 : ∀ (I : mI) (J : mJ) , wp_S_passTo_0 K0 K10 R I J jT a1 a2  → K0 I J ) (c10 : ∀ (I : mI) (J : mJ) (x3 : Int32), wp_S_passTo_10 K0 K10 R I J jT a1 a2 x3 → K10 I J x3) (hR : ∀ (I' : mI) (J' : mJ), qS_passTo I0 J0 jT a1 a2 I' J' → R I' J') : wp_S_passTo K0 K10 R I0 J0 jT a1 a2 := by
  obtain ⟨q0, e, n, hq0, rfl, rfl, hn, he, hge⟩ := hp
  unfold qS_passTo at hR
  rw [cN_nI (n := n) (by omega), cN_nI (n := e) (by omega)] at hR
  have inner : ∀ (I : mI), (∀ I1, (∀ a, a ≠ jT + 1 → I1 a = I a) → (∀ w, w < 7 → I1 (jT + 1) w = if w < n ∧ bt (I jT 5) w = false ∧ 0 < I (jT + 1) w then I (jT + 1) w - 1 else I (jT + 1) w) → K10 I1 J0 (nI n)) → ∀ m v I1, v + m = n → (∀ a, a ≠ jT + 1 → I1 a = I a) → (∀ w, w < 7 → I1 (jT + 1) w = if w < v ∧ bt (I jT 5) w = false ∧ 0 < I (jT + 1) w then I (jT + 1) w - 1 else I (jT + 1) w) → K10 I1 J0 (nI v) := by
    intro I fin m
    induction m with
    | zero =>
      intro v I1 hv h1 h2
      have hv : v = n := by omega
      subst hv
      exact fin I1 h1 h2
    | succ m ih =>
      intro v I1 hv h1 h2
      have ev : (nI v).toNatClampNeg = v := nI_clamp (by omega)
      have i7 : vp_in (nI v) 7 := i7_of (by omega)
      have rT : I1 jT = I jT := h1 jT (by omega)
      have bv : I1 (jT + 1) v = I (jT + 1) v := by rw [h2 v (by omega), if_neg (by omega)]
      have same : (¬ (bt (I jT 5) v = false ∧ 0 < I (jT + 1) v)) → K10 I1 J0 (nI (v + 1)) := fun z => by
        refine ih (v + 1) I1 (by omega) h1 (fun w hw => ?_)
        rw [h2 w hw]
        by_cases c : w < v ∧ bt (I jT 5) w = false ∧ 0 < I (jT + 1) w
        · rw [if_pos c, if_pos ⟨by omega, c.2⟩]
        · rw [if_neg c]
          by_cases ew : w = v
          · subst ew
            rw [if_neg (fun y => z y.2)]
          · rw [if_neg (fun y => c ⟨by omega, y.2⟩)]
      apply c10
      unfold wp_S_passTo_10 fF_isIn
      rw [ev, nI_1, rT, bv, fBit_bz _ (by omega)]
      refine ⟨fun h => absurd h (nI_ge (by omega) (by omega)), fun _ => ⟨fun h => same (fun z => by rw [bz_n0.mp h] at z; exact absurd z.1 (by decide)), fun h => ⟨i7, fun h3 => same (fun z => Int32.not_lt.mpr h3 z.2), fun h3 => ⟨i7, i7, fun I8 e8 => ih (v + 1) I8 (by omega) (fun a ha => ?_) (fun w hw => ?_)⟩⟩⟩⟩
      · rw [e8, mu_other _ _ _ ha]; exact h1 a ha
      · rw [e8, mu_at]
        by_cases ew : w = v
        · subst ew
          rw [if_pos ⟨rfl, rfl⟩, if_pos ⟨by omega, bz_0.mp h, Int32.not_le.mp h3⟩]
        · rw [if_neg (fun y => ew y.2), h2 w hw]
          by_cases c : w < v ∧ bt (I jT 5) w = false ∧ 0 < I (jT + 1) w
          · rw [if_pos c, if_pos ⟨by omega, c.2⟩]
          · rw [if_neg c, if_neg (fun y => c ⟨by omega, y.2⟩)]
  have outer : ∀ m k I, gE q0 + k + m = e → (∀ a, a ≠ jT → a ≠ jT + 1 → I a = I0 a) → (∀ q, xE q I0 jT → xE (gAdv n k q) I jT) → K0 I J0 := by
    intro m
    induction m with
    | zero =>
      intro k I hk h1 h2
      have e4 := (h2 q0 hq0).2.2.2.2.1
      rw [gAdv_E] at e4
      apply c0
      unfold wp_S_passTo_0
      rw [e4]
      refine ⟨fun _ => hR _ _ ⟨rfl, h1, fun q hq hle => ?_⟩, fun h => absurd (nI_le (by omega) (by omega)) h⟩
      have : gE q = gE q0 := (nI_eq (by omega) (by omega)).mp (hq.2.2.2.2.1.symm.trans hq0.2.2.2.2.1)
      unfold gTo
      rw [this, show e - gE q0 = k from by omega]
      exact h2 q hq
    | succ m ih =>
      intro k I hk h1 h2
      have e4 := (h2 q0 hq0).2.2.2.2.1
      rw [gAdv_E] at e4
      apply c0
      unfold wp_S_passTo_0
      rw [e4]
      refine ⟨fun h => absurd h (nI_ge (by omega) (by omega)), fun _ => ?_⟩
      refine inner I (fun I1 g1 g2 => ?_) n 0 I (by omega) (fun _ _ => rfl) (fun w hw => by rw [if_neg (by omega)])
      apply c10
      unfold wp_S_passTo_10
      refine ⟨fun _ I2 e2 I3 e3 I5 e5 => ?_, fun h => absurd (nI_le (Nat.le_refl _) (by omega)) h⟩
      have x4 : I3 jT 4 = I jT 4 := by rw [e3, mu_at, if_neg (by omega), e2, mu_at, if_neg (by omega), g1 jT (by omega)]
      rw [x4, e3] at e5
      refine ih (k + 1) I5 (by omega) (fun a ha hb => ?_) (fun q hq => ?_)
      · rw [e5, mu_other _ _ _ ha, mu_other _ _ _ ha, e2, mu_other _ _ _ ha, g1 a hb]
        exact h1 a ha hb
      · rw [gAdv_s]
        exact step_X hn (h2 q hq) g1 g2 e2 e5
  exact outer (e - gE q0) 0 I0 (by omega) (fun _ _ _ => rfl) (fun q hq => hq)
set_option maxHeartbeats 4000000 in
set_option maxRecDepth 100000 in
theorem C_S_passTo (l : Launch) (D : va_G) (ca : Nat → Nat) (ad : Nat → Nat) (I0 : mI) (J0 : mJ) (jT : Nat) (a1 : Int32) (a2 : Int32) (hkT : xk jT = 6) (hp : pS_passTo I0 J0 jT a1 a2) : Met l yS_passTo wS_passTo ({ frames := 1, cells := 0, slots := 0, locals := 21 } : Room) (va_Pc [.ref (ad jT), .int a1, .int a2] (mPre D vwCl (xty ca) 459 ad (xmk ca ad) nL I0 J0)) (mQv D vwCl 459 ad (xmk ca ad) (qS_passTo I0 J0 jT a1 a2)) 0 0 (mA 459 ad) := by
  refine Met.ofW (cc := cS_passTo) (maxL := 4) (ret := none) (by decide) rfl ?_
  intro p e s m args below meth c s₁ B hml hv
  obtain ⟨rfl, hP, hK, hD0, hN⟩ := hv
  have hx := B.exec
  have hb := B.bytes
  have hr := B.returns
  have htb : ∀ w ∈ wb, w.before _ s = true := fun w h => atoms_spec (ws := wS_passTo) B.pre w (List.mem_cons_of_mem _ h)
  have hown : s.vm.findClass RS = some m.cls := findClass_of_methodNamed B.named
  have hlk := B.notSynchronized
  have hD := mw_Dm hD0
  have hS : va_S (mA 459 ad) s.heap s.heap [] := va_S.rf
  have hl := lv_entry ([.ref (ad jT), .int a1, .int a2]) (n := 4) (Nat.le_of_ble_eq_true rfl)
  rw [lg_entry_eq]
  generalize (lg_sl ([.ref (ad jT), .int a1, .int a2]) ++ List.replicate (4 - (lg_sl ([.ref (ad jT), .int a1, .int a2])).length) Slot.unset).toArray = ls at hl ⊢
  have hl : lv_has ls 4 [(0, .ref (ad jT)), (1, .int a1), (2, .int a2)] := hl
  obtain ⟨K0, hK0⟩ : ∃ K : mI → mJ → Prop, K = (fun I J  => ∀ (H : Heap) (locs : List Loc) (ls : Array Slot), va_P D vwCl (mw 459 ad (xmk ca ad) I J) H → va_S (mA 459 ad) s.heap H locs → lv_has ls 4 [(0, .ref (ad jT)), (1, .int a1), (2, .int a2)] → W p l e (headSpec wS_passTo ({ frames := 1, cells := 0, slots := 0, locals := 21 } : Room)).room s m (([.ref (ad jT), .int a1, .int a2] : List Value).toArray) below meth c H locs 0 0 (MQ below (mQv D vwCl 459 ad (xmk ca ad) (qS_passTo I0 J0 jT a1 a2)) (([.ref (ad jT), .int a1, .int a2] : List Value).toArray) s 0 0 (mA 459 ad)) (F0 m 0 ls [])) := ⟨_, rfl⟩
  obtain ⟨K10, hK10⟩ : ∃ K : mI → mJ → Int32 → Prop, K = (fun I J x3 => ∀ (H : Heap) (locs : List Loc) (ls : Array Slot), va_P D vwCl (mw 459 ad (xmk ca ad) I J) H → va_S (mA 459 ad) s.heap H locs → lv_has ls 4 [(0, .ref (ad jT)), (1, .int a1), (2, .int a2), (3, .int x3)] → W p l e (headSpec wS_passTo ({ frames := 1, cells := 0, slots := 0, locals := 21 } : Room)).room s m (([.ref (ad jT), .int a1, .int a2] : List Value).toArray) below meth c H locs 0 0 (MQ below (mQv D vwCl 459 ad (xmk ca ad) (qS_passTo I0 J0 jT a1 a2)) (([.ref (ad jT), .int a1, .int a2] : List Value).toArray) s 0 0 (mA 459 ad)) (F0 m 10 ls [])) := ⟨_, rfl⟩
  have c0 : ∀ (I : mI) (J : mJ) , wp_S_passTo_0 K0 K10 (qS_passTo I0 J0 jT a1 a2) I J jT a1 a2  → K0 I J  := by
    intro I J  h
    rw [hK0]
    intro H locs ls hP hS hl
    unfold wp_S_passTo_0 at h
    refine lv_aload_n hx hb dS_passTo_0 rfl (lv_at hl 0 rfl) ?_
    refine va_get (D := D) (ci := 3) (v := .int (I jT 4)) (C := RS) (T := TS) (N := 7) hx hb htb inS hown hK hP jT (mw_at (xk_lt hkT (by decide)) (xm_S hkT _ _)) rfl 4 (by decide) (htb _ k1_65) (fun _ h9 => h9) rfl dS_passTo_1 ?_
    refine lv_iload_n hx hb dS_passTo_4 rfl (lv_at hl 1 rfl) ?_
    refine lv_icmp_ge (tgt := 77) hx hb dS_passTo_5 (by decide) (fun hc => ?_) (fun hc => ?_)
    · have h := h.1 hc
      exact me_v hx hb hr hlk hP hS h dS_passTo_77
    · have h := h.2 hc
      refine lv_iconst (v := 0) hx hb dS_passTo_8 (by decide) ?_
      refine lv_istore_n (lv' := [(3, .int 0), (0, .ref (ad jT)), (1, .int a1), (2, .int a2)]) hx hb dS_passTo_9 rfl hl (by decide) rfl (fun ls hl => ?_)
      rw [hK10] at h
      exact h _ _ _ hP hS (lv_sub hl [1, 2, 3, 0] rfl)
  have c10 : ∀ (I : mI) (J : mJ) (x3 : Int32), wp_S_passTo_10 K0 K10 (qS_passTo I0 J0 jT a1 a2) I J jT a1 a2 x3 → K10 I J x3 := by
    intro I J x3 h
    rw [hK10]
    intro H locs ls hP hS hl
    unfold wp_S_passTo_10 at h
    refine lv_iload_n hx hb dS_passTo_10 rfl (lv_at hl 3 rfl) ?_
    refine lv_iload_n hx hb dS_passTo_11 rfl (lv_at hl 2 rfl) ?_
    refine lv_icmp_ge (tgt := 51) hx hb dS_passTo_12 (by decide) (fun hc => ?_) (fun hc => ?_)
    · have h := h.1 hc
      refine lv_aload_n hx hb dS_passTo_51 rfl (lv_at hl 0 rfl) ?_
      refine lv_aload_n hx hb dS_passTo_52 rfl (lv_at hl 0 rfl) ?_
      refine va_get (D := D) (ci := 3) (v := .int (I jT 5)) (C := RS) (T := TS) (N := 7) hx hb htb inS hown hK hP jT (mw_at (xk_lt hkT (by decide)) (xm_S hkT _ _)) rfl 5 (by decide) (htb _ k1_66) (fun _ h9 => h9) rfl dS_passTo_53 ?_
      refine mr_puti hx hb htb inS tyS tyS_ok nmS hown hK hP hD hS jT (xk_lt hkT (by decide)) (xm_S hkT _ _) rfl 6 (by decide) (htb _ k1_67) (fun _ h9 => h9) rfl (by decide +kernel) (Nat.le_of_ble_eq_true rfl) (xm_S hkT _ _) dS_passTo_56 (fun H locs hP hS => ?_)
      generalize heI1 : mu I jT 6 (I jT 5) = I1 at hP
      have h := h I1 heI1.symm
      refine lv_aload_n hx hb dS_passTo_59 rfl (lv_at hl 0 rfl) ?_
      refine lv_iconst (v := 0) hx hb dS_passTo_60 (by decide) ?_
      refine mr_puti hx hb htb inS tyS tyS_ok nmS hown hK hP hD hS jT (xk_lt hkT (by decide)) (xm_S hkT _ _) rfl 5 (by decide) (htb _ k1_66) (fun _ h9 => h9) rfl (by decide +kernel) (Nat.le_of_ble_eq_true rfl) (xm_S hkT _ _) dS_passTo_61 (fun H locs hP hS => ?_)
      generalize heI2 : mu I1 jT 5 0 = I2 at hP
      have h := h I2 heI2.symm
      refine lv_aload_n hx hb dS_passTo_64 rfl (lv_at hl 0 rfl) ?_
      refine lv_dup hx hb dS_passTo_65 rfl ?_
      refine va_get (D := D) (ci := 3) (v := .int (I2 jT 4)) (C := RS) (T := TS) (N := 7) hx hb htb inS hown hK hP jT (mw_at (xk_lt hkT (by decide)) (xm_S hkT _ _)) rfl 4 (by decide) (htb _ k1_65) (fun _ h9 => h9) rfl dS_passTo_66 ?_
      refine lv_iconst (v := 1) hx hb dS_passTo_69 (by decide) ?_
      refine lv_iadd hx hb dS_passTo_70 ?_
      refine mr_puti hx hb htb inS tyS tyS_ok nmS hown hK hP hD hS jT (xk_lt hkT (by decide)) (xm_S hkT _ _) rfl 4 (by decide) (htb _ k1_65) (fun _ h9 => h9) rfl (by decide +kernel) (Nat.le_of_ble_eq_true rfl) (xm_S hkT _ _) dS_passTo_71 (fun H locs hP hS => ?_)
      generalize heI3 : mu I2 jT 4 ((I2 jT 4) + 1) = I3 at hP
      have h := h I3 heI3.symm
      refine lv_goto (tgt := 0) hx hb dS_passTo_74 (by decide) ?_
      rw [hK0] at h
      exact h _ _ _ hP hS (lv_sub hl [0, 1, 2] rfl)
    · have h := h.2 hc
      refine lv_aload_n hx hb dS_passTo_15 rfl (lv_at hl 0 rfl) ?_
      refine va_get (D := D) (ci := 3) (v := .int (I jT 5)) (C := RS) (T := TS) (N := 7) hx hb htb inS hown hK hP jT (mw_at (xk_lt hkT (by decide)) (xm_S hkT _ _)) rfl 5 (by decide) (htb _ k1_66) (fun _ h9 => h9) rfl dS_passTo_16 ?_
      refine lv_iload_n hx hb dS_passTo_19 rfl (lv_at hl 3 rfl) ?_
      refine mc_r (va_runSN (As := [.int (I jT 5), .int x3]) (rest := []) ⟨hx, hb, hml, hown, htb⟩ (C_F_isIn l D ca ad I J (I jT 5) x3) ⟨va_cnB 2 htb (gd_c k2_21) rfl rfl rfl (nl_5 hN) (htb _ k1_1) (by decide +kernel) ⟨Nat.le_of_ble_eq_true rfl, Nat.le_of_ble_eq_true rfl⟩, htb _ k2_20, trivial⟩ (mPre_S hK hP hD hN) rfl rfl hl.1 rfl (lv_room (Nat.le_of_ble_eq_true rfl)) dS_passTo_20 ⟨Nat.le_of_ble_eq_true rfl, Nat.le_of_ble_eq_true rfl⟩) hS (fun H locs hP hS => ?_)
      refine lv_if_ne (tgt := 45) hx hb dS_passTo_23 (by decide) (fun hc => ?_) (fun hc => ?_)
      · have h := h.1 hc
        refine lv_iinc (k := 3) (v := x3 + 1) (lv' := [(3, .int (x3 + 1)), (0, .ref (ad jT)), (1, .int a1), (2, .int a2)]) hx hb dS_passTo_45 hl rfl (by rfl) (by decide) rfl (fun ls hl => ?_)
        refine lv_goto (tgt := 10) hx hb dS_passTo_48 (by decide) ?_
        rw [hK10] at h
        exact h _ _ _ hP hS (lv_sub hl [1, 2, 3, 0] rfl)
      · have h := h.2 hc
        refine lv_aload_n hx hb dS_passTo_26 rfl (lv_at hl 0 rfl) ?_
        refine va_get (D := D) (ci := 3) (v := .ref (ad (jT + 1))) (C := RS) (T := TS) (N := 7) hx hb htb inS hown hK hP jT (mw_at (xk_lt hkT (by decide)) (xm_S hkT _ _)) rfl 0 (by decide) (htb _ k1_57) (fun _ h9 => h9) rfl dS_passTo_27 ?_
        refine lv_iload_n hx hb dS_passTo_30 rfl (lv_at hl 3 rfl) ?_
        obtain ⟨hn5, h⟩ := h
        refine mr_iald hx hb hK hP (jT + 1) 0 (xk_lt (xk_SB hkT) (by decide)) (xm_7 (xk_SB hkT) _ _) rfl hn5 dS_passTo_31 ?_
        refine lv_if_le (tgt := 45) hx hb dS_passTo_32 (by decide) (fun hc => ?_) (fun hc => ?_)
        · have h := h.1 hc
          refine lv_iinc (k := 3) (v := x3 + 1) (lv' := [(3, .int (x3 + 1)), (0, .ref (ad jT)), (1, .int a1), (2, .int a2)]) hx hb dS_passTo_45 hl rfl (by rfl) (by decide) rfl (fun ls hl => ?_)
          refine lv_goto (tgt := 10) hx hb dS_passTo_48 (by decide) ?_
          rw [hK10] at h
          exact h _ _ _ hP hS (lv_sub hl [1, 2, 3, 0] rfl)
        · have h := h.2 hc
          refine lv_aload_n hx hb dS_passTo_35 rfl (lv_at hl 0 rfl) ?_
          refine va_get (D := D) (ci := 3) (v := .ref (ad (jT + 1))) (C := RS) (T := TS) (N := 7) hx hb htb inS hown hK hP jT (mw_at (xk_lt hkT (by decide)) (xm_S hkT _ _)) rfl 0 (by decide) (htb _ k1_57) (fun _ h9 => h9) rfl dS_passTo_36 ?_
          refine lv_iload_n hx hb dS_passTo_39 rfl (lv_at hl 3 rfl) ?_
          refine lv_dup2_11 hx hb dS_passTo_40 rfl rfl ?_
          obtain ⟨hn6, h⟩ := h
          refine mr_iald hx hb hK hP (jT + 1) 0 (xk_lt (xk_SB hkT) (by decide)) (xm_7 (xk_SB hkT) _ _) rfl hn6 dS_passTo_41 ?_
          refine lv_iconst (v := 1) hx hb dS_passTo_42 (by decide) ?_
          refine lv_isub hx hb dS_passTo_43 ?_
          obtain ⟨hn7, h⟩ := h
          refine mr_iast hx hb hK hP hD hS (jT + 1) 0 (xk_lt (xk_SB hkT) (by decide)) (fun f => xm_7 (xk_SB hkT) f _) rfl hn7 dS_passTo_44 (fun H locs hP hS => ?_)
          generalize heI8 : mu I (jT + 1) x3.toNatClampNeg ((I (jT + 1) x3.toNatClampNeg) - 1) = I8 at hP
          have h := h I8 heI8.symm
          refine lv_iinc (k := 3) (v := x3 + 1) (lv' := [(3, .int (x3 + 1)), (0, .ref (ad jT)), (1, .int a1), (2, .int a2)]) hx hb dS_passTo_45 hl rfl (by rfl) (by decide) rfl (fun ls hl => ?_)
          refine lv_goto (tgt := 10) hx hb dS_passTo_48 (by decide) ?_
          rw [hK10] at h
          exact h _ _ _ hP hS (lv_sub hl [1, 2, 3, 0] rfl)
  have h := P_S_passTo I0 J0 jT a1 a2 hkT hp K0 K10 (qS_passTo I0 J0 jT a1 a2) c0 c10 (fun _ _ h => h)
  unfold wp_S_passTo at h
  rw [hK0] at h
  exact h _ _ _ hP hS (lv_sub hl [0, 1, 2] rfl)
def wp_S_addCounted (R : mI → mJ → Prop) (I0 : mI) (J0 : mJ) (jT : Nat) (a1 : Int32) (a2 : Int32) : Prop :=
  ((¬ (a1 = (I0 jT 4)) → (∀ (I1 : mI), I1 = mu I0 jT 6 ((I0 jT 6) ||| ((1 : Int32) <<< (a2 &&& 31))) → R I1 J0)) ∧ (a1 = (I0 jT 4) → (∀ (I2 : mI), I2 = mu I0 jT 5 ((I0 jT 5) ||| ((1 : Int32) <<< (a2 &&& 31))) → R I2 J0)))
theorem P_S_addCounted (I0 : mI) (J0 : mJ) (jT : Nat) (a1 : Int32) (a2 : Int32) (hkT : xk jT = 6)   (R : mI → mJ → Prop)  (hR : ∀ (I' : mI) (J' : mJ), qS_addCounted I0 J0 jT a1 a2 I' J' → R I' J') : wp_S_addCounted R I0 J0 jT a1 a2 := by
  unfold wp_S_addCounted
  refine ⟨fun h I1 e1 => hR _ _ ⟨rfl, ?_⟩, fun h I2 e2 => hR _ _ ⟨rfl, ?_⟩⟩
  · rw [if_neg h]; exact e1
  · rw [if_pos h]; exact e2
set_option maxHeartbeats 4000000 in
set_option maxRecDepth 100000 in
theorem C_S_addCounted (l : Launch) (D : va_G) (ca : Nat → Nat) (ad : Nat → Nat) (I0 : mI) (J0 : mJ) (jT : Nat) (a1 : Int32) (a2 : Int32) (hkT : xk jT = 6)  : Met l yS_addCounted wS_addCounted ({ frames := 0, cells := 0, slots := 0, locals := 0 } : Room) (va_Pc [.ref (ad jT), .int a1, .int a2] (mPre D vwCl (xty ca) 459 ad (xmk ca ad) nL I0 J0)) (mQv D vwCl 459 ad (xmk ca ad) (qS_addCounted I0 J0 jT a1 a2)) 0 0 (mA 459 ad) := by
  refine Met.ofW (cc := cS_addCounted) (maxL := 3) (ret := none) (by decide) rfl ?_
  intro p e s m args below meth c s₁ B hml hv
  obtain ⟨rfl, hP, hK, hD0, hN⟩ := hv
  have hx := B.exec
  have hb := B.bytes
  have hr := B.returns
  have htb : ∀ w ∈ wb, w.before _ s = true := fun w h => atoms_spec (ws := wS_addCounted) B.pre w (List.mem_cons_of_mem _ h)
  have hown : s.vm.findClass RS = some m.cls := findClass_of_methodNamed B.named
  have hlk := B.notSynchronized
  have hD := mw_Dm hD0
  have hS : va_S (mA 459 ad) s.heap s.heap [] := va_S.rf
  have hl := lv_entry ([.ref (ad jT), .int a1, .int a2]) (n := 3) (Nat.le_of_ble_eq_true rfl)
  rw [lg_entry_eq]
  generalize (lg_sl ([.ref (ad jT), .int a1, .int a2]) ++ List.replicate (3 - (lg_sl ([.ref (ad jT), .int a1, .int a2])).length) Slot.unset).toArray = ls at hl ⊢
  have hl : lv_has ls 3 [(0, .ref (ad jT)), (1, .int a1), (2, .int a2)] := hl
  have h := P_S_addCounted I0 J0 jT a1 a2 hkT   (qS_addCounted I0 J0 jT a1 a2)  (fun _ _ h => h)
  unfold wp_S_addCounted at h
  refine lv_iload_n hx hb dS_addCounted_0 rfl (lv_at hl 1 rfl) ?_
  refine lv_aload_n hx hb dS_addCounted_1 rfl (lv_at hl 0 rfl) ?_
  refine va_get (D := D) (ci := 3) (v := .int (I0 jT 4)) (C := RS) (T := TS) (N := 7) hx hb htb inS hown hK hP jT (mw_at (xk_lt hkT (by decide)) (xm_S hkT _ _)) rfl 4 (by decide) (htb _ k1_65) (fun _ h9 => h9) rfl dS_addCounted_2 ?_
  refine lv_icmp_ne (tgt := 23) hx hb dS_addCounted_5 (by decide) (fun hc => ?_) (fun hc => ?_)
  · have h := h.1 hc
    refine lv_aload_n hx hb dS_addCounted_23 rfl (lv_at hl 0 rfl) ?_
    refine lv_dup hx hb dS_addCounted_24 rfl ?_
    refine va_get (D := D) (ci := 3) (v := .int (I0 jT 6)) (C := RS) (T := TS) (N := 7) hx hb htb inS hown hK hP jT (mw_at (xk_lt hkT (by decide)) (xm_S hkT _ _)) rfl 6 (by decide) (htb _ k1_67) (fun _ h9 => h9) rfl dS_addCounted_25 ?_
    refine lv_iconst (v := 1) hx hb dS_addCounted_28 (by decide) ?_
    refine lv_iload_n hx hb dS_addCounted_29 rfl (lv_at hl 2 rfl) ?_
    refine lv_ishl hx hb dS_addCounted_30 ?_
    refine lv_ior hx hb dS_addCounted_31 ?_
    refine mr_puti hx hb htb inS tyS tyS_ok nmS hown hK hP hD hS jT (xk_lt hkT (by decide)) (xm_S hkT _ _) rfl 6 (by decide) (htb _ k1_67) (fun _ h9 => h9) rfl (by decide +kernel) (Nat.le_of_ble_eq_true rfl) (xm_S hkT _ _) dS_addCounted_32 (fun H locs hP hS => ?_)
    generalize heI1 : mu I0 jT 6 ((I0 jT 6) ||| ((1 : Int32) <<< (a2 &&& 31))) = I1 at hP
    have h := h I1 heI1.symm
    exact me_v hx hb hr hlk hP hS h dS_addCounted_35
  · have h := h.2 hc
    refine lv_aload_n hx hb dS_addCounted_8 rfl (lv_at hl 0 rfl) ?_
    refine lv_dup hx hb dS_addCounted_9 rfl ?_
    refine va_get (D := D) (ci := 3) (v := .int (I0 jT 5)) (C := RS) (T := TS) (N := 7) hx hb htb inS hown hK hP jT (mw_at (xk_lt hkT (by decide)) (xm_S hkT _ _)) rfl 5 (by decide) (htb _ k1_66) (fun _ h9 => h9) rfl dS_addCounted_10 ?_
    refine lv_iconst (v := 1) hx hb dS_addCounted_13 (by decide) ?_
    refine lv_iload_n hx hb dS_addCounted_14 rfl (lv_at hl 2 rfl) ?_
    refine lv_ishl hx hb dS_addCounted_15 ?_
    refine lv_ior hx hb dS_addCounted_16 ?_
    refine mr_puti hx hb htb inS tyS tyS_ok nmS hown hK hP hD hS jT (xk_lt hkT (by decide)) (xm_S hkT _ _) rfl 5 (by decide) (htb _ k1_66) (fun _ h9 => h9) rfl (by decide +kernel) (Nat.le_of_ble_eq_true rfl) (xm_S hkT _ _) dS_addCounted_17 (fun H locs hP hS => ?_)
    generalize heI2 : mu I0 jT 5 ((I0 jT 5) ||| ((1 : Int32) <<< (a2 &&& 31))) = I2 at hP
    have h := h I2 heI2.symm
    refine lv_goto (tgt := 35) hx hb dS_addCounted_20 (by decide) ?_
    exact me_v hx hb hr hlk hP hS h dS_addCounted_35
def wp_S_justify (R : mI → mJ → Prop) (I0 : mI) (J0 : mJ) (jT : Nat) (a1 : Int32) (a2 : Int32) : Prop :=
  ((¬ ((fF_epochOf I0 J0 a1) = ((fF_epochOf I0 J0 a2) - 1)) → (∀ (I3 : mI), I3 = mu I0 jT 2 a2 → (∀ (I4 : mI), I4 = mu I3 jT 5 0 → (∀ (I5 : mI), I5 = mu I4 jT 6 0 → R I5 J0)))) ∧ ((fF_epochOf I0 J0 a1) = ((fF_epochOf I0 J0 a2) - 1) → (∀ (I6 : mI), I6 = mu I0 jT 3 a1 → (∀ (I7 : mI), I7 = mu I6 jT 2 a2 → (∀ (I8 : mI), I8 = mu I7 jT 5 0 → (∀ (I9 : mI), I9 = mu I8 jT 6 0 → R I9 J0))))))
theorem P_S_justify (I0 : mI) (J0 : mJ) (jT : Nat) (a1 : Int32) (a2 : Int32) (hkT : xk jT = 6)   (R : mI → mJ → Prop)  (hR : ∀ (I' : mI) (J' : mJ), qS_justify I0 J0 jT a1 a2 I' J' → R I' J') : wp_S_justify R I0 J0 jT a1 a2 := by
  unfold wp_S_justify fF_epochOf
  refine ⟨fun h I3 e3 I4 e4 I5 e5 => hR _ _ ⟨rfl, ?_⟩, fun h I6 e6 I7 e7 I8 e8 I9 e9 => hR _ _ ⟨rfl, ?_⟩⟩
  · rw [if_neg h, e5, e4, e3]
  · rw [if_pos h, e9, e8, e7, e6]
set_option maxHeartbeats 4000000 in
set_option maxRecDepth 100000 in
theorem C_S_justify (l : Launch) (D : va_G) (ca : Nat → Nat) (ad : Nat → Nat) (I0 : mI) (J0 : mJ) (jT : Nat) (a1 : Int32) (a2 : Int32) (hkT : xk jT = 6)  : Met l yS_justify wS_justify ({ frames := 1, cells := 0, slots := 0, locals := 20 } : Room) (va_Pc [.ref (ad jT), .int a1, .int a2] (mPre D vwCl (xty ca) 459 ad (xmk ca ad) nL I0 J0)) (mQv D vwCl 459 ad (xmk ca ad) (qS_justify I0 J0 jT a1 a2)) 0 0 (mA 459 ad) := by
  refine Met.ofW (cc := cS_justify) (maxL := 3) (ret := none) (by decide) rfl ?_
  intro p e s m args below meth c s₁ B hml hv
  obtain ⟨rfl, hP, hK, hD0, hN⟩ := hv
  have hx := B.exec
  have hb := B.bytes
  have hr := B.returns
  have htb : ∀ w ∈ wb, w.before _ s = true := fun w h => atoms_spec (ws := wS_justify) B.pre w (List.mem_cons_of_mem _ h)
  have hown : s.vm.findClass RS = some m.cls := findClass_of_methodNamed B.named
  have hlk := B.notSynchronized
  have hD := mw_Dm hD0
  have hS : va_S (mA 459 ad) s.heap s.heap [] := va_S.rf
  have hl := lv_entry ([.ref (ad jT), .int a1, .int a2]) (n := 3) (Nat.le_of_ble_eq_true rfl)
  rw [lg_entry_eq]
  generalize (lg_sl ([.ref (ad jT), .int a1, .int a2]) ++ List.replicate (3 - (lg_sl ([.ref (ad jT), .int a1, .int a2])).length) Slot.unset).toArray = ls at hl ⊢
  have hl : lv_has ls 3 [(0, .ref (ad jT)), (1, .int a1), (2, .int a2)] := hl
  have h := P_S_justify I0 J0 jT a1 a2 hkT   (qS_justify I0 J0 jT a1 a2)  (fun _ _ h => h)
  unfold wp_S_justify at h
  refine lv_iload_n hx hb dS_justify_0 rfl (lv_at hl 1 rfl) ?_
  refine mc_r (va_runSN (As := [.int a1]) (rest := []) ⟨hx, hb, hml, hown, htb⟩ (C_F_epochOf l D ca ad I0 J0 a1) ⟨va_cnB 1 htb (gd_c k1_221) rfl rfl rfl (nl_6 hN) (htb _ k1_1) (by decide +kernel) ⟨Nat.le_of_ble_eq_true rfl, Nat.le_of_ble_eq_true rfl⟩, htb _ k1_220, trivial⟩ (mPre_S hK hP hD hN) rfl rfl hl.1 rfl (lv_room (Nat.le_of_ble_eq_true rfl)) dS_justify_1 ⟨Nat.le_of_ble_eq_true rfl, Nat.le_of_ble_eq_true rfl⟩) hS (fun H locs hP hS => ?_)
  refine lv_iload_n hx hb dS_justify_4 rfl (lv_at hl 2 rfl) ?_
  refine mc_r (va_runSN (As := [.int a2]) (rest := [.int (fF_epochOf I0 J0 a1)]) ⟨hx, hb, hml, hown, htb⟩ (C_F_epochOf l D ca ad I0 J0 a2) ⟨va_cnB 1 htb (gd_c k1_221) rfl rfl rfl (nl_6 hN) (htb _ k1_1) (by decide +kernel) ⟨Nat.le_of_ble_eq_true rfl, Nat.le_of_ble_eq_true rfl⟩, htb _ k1_220, trivial⟩ (mPre_S hK hP hD hN) rfl rfl hl.1 rfl (lv_room (Nat.le_of_ble_eq_true rfl)) dS_justify_5 ⟨Nat.le_of_ble_eq_true rfl, Nat.le_of_ble_eq_true rfl⟩) hS (fun H locs hP hS => ?_)
  refine lv_iconst (v := 1) hx hb dS_justify_8 (by decide) ?_
  refine lv_isub hx hb dS_justify_9 ?_
  refine lv_icmp_ne (tgt := 18) hx hb dS_justify_10 (by decide) (fun hc => ?_) (fun hc => ?_)
  · have h := h.1 hc
    refine lv_aload_n hx hb dS_justify_18 rfl (lv_at hl 0 rfl) ?_
    refine lv_iload_n hx hb dS_justify_19 rfl (lv_at hl 2 rfl) ?_
    refine mr_puti hx hb htb inS tyS tyS_ok nmS hown hK hP hD hS jT (xk_lt hkT (by decide)) (xm_S hkT _ _) rfl 2 (by decide) (htb _ k1_61) (fun _ h9 => h9) rfl (by decide +kernel) (Nat.le_of_ble_eq_true rfl) (xm_S hkT _ _) dS_justify_20 (fun H locs hP hS => ?_)
    generalize heI3 : mu I0 jT 2 a2 = I3 at hP
    have h := h I3 heI3.symm
    refine lv_aload_n hx hb dS_justify_23 rfl (lv_at hl 0 rfl) ?_
    refine lv_iconst (v := 0) hx hb dS_justify_24 (by decide) ?_
    refine mr_puti hx hb htb inS tyS tyS_ok nmS hown hK hP hD hS jT (xk_lt hkT (by decide)) (xm_S hkT _ _) rfl 5 (by decide) (htb _ k1_66) (fun _ h9 => h9) rfl (by decide +kernel) (Nat.le_of_ble_eq_true rfl) (xm_S hkT _ _) dS_justify_25 (fun H locs hP hS => ?_)
    generalize heI4 : mu I3 jT 5 0 = I4 at hP
    have h := h I4 heI4.symm
    refine lv_aload_n hx hb dS_justify_28 rfl (lv_at hl 0 rfl) ?_
    refine lv_iconst (v := 0) hx hb dS_justify_29 (by decide) ?_
    refine mr_puti hx hb htb inS tyS tyS_ok nmS hown hK hP hD hS jT (xk_lt hkT (by decide)) (xm_S hkT _ _) rfl 6 (by decide) (htb _ k1_67) (fun _ h9 => h9) rfl (by decide +kernel) (Nat.le_of_ble_eq_true rfl) (xm_S hkT _ _) dS_justify_30 (fun H locs hP hS => ?_)
    generalize heI5 : mu I4 jT 6 0 = I5 at hP
    have h := h I5 heI5.symm
    exact me_v hx hb hr hlk hP hS h dS_justify_33
  · have h := h.2 hc
    refine lv_aload_n hx hb dS_justify_13 rfl (lv_at hl 0 rfl) ?_
    refine lv_iload_n hx hb dS_justify_14 rfl (lv_at hl 1 rfl) ?_
    refine mr_puti hx hb htb inS tyS tyS_ok nmS hown hK hP hD hS jT (xk_lt hkT (by decide)) (xm_S hkT _ _) rfl 3 (by decide) (htb _ k1_63) (fun _ h9 => h9) rfl (by decide +kernel) (Nat.le_of_ble_eq_true rfl) (xm_S hkT _ _) dS_justify_15 (fun H locs hP hS => ?_)
    generalize heI6 : mu I0 jT 3 a1 = I6 at hP
    have h := h I6 heI6.symm
    refine lv_aload_n hx hb dS_justify_18 rfl (lv_at hl 0 rfl) ?_
    refine lv_iload_n hx hb dS_justify_19 rfl (lv_at hl 2 rfl) ?_
    refine mr_puti hx hb htb inS tyS tyS_ok nmS hown hK hP hD hS jT (xk_lt hkT (by decide)) (xm_S hkT _ _) rfl 2 (by decide) (htb _ k1_61) (fun _ h9 => h9) rfl (by decide +kernel) (Nat.le_of_ble_eq_true rfl) (xm_S hkT _ _) dS_justify_20 (fun H locs hP hS => ?_)
    generalize heI7 : mu I6 jT 2 a2 = I7 at hP
    have h := h I7 heI7.symm
    refine lv_aload_n hx hb dS_justify_23 rfl (lv_at hl 0 rfl) ?_
    refine lv_iconst (v := 0) hx hb dS_justify_24 (by decide) ?_
    refine mr_puti hx hb htb inS tyS tyS_ok nmS hown hK hP hD hS jT (xk_lt hkT (by decide)) (xm_S hkT _ _) rfl 5 (by decide) (htb _ k1_66) (fun _ h9 => h9) rfl (by decide +kernel) (Nat.le_of_ble_eq_true rfl) (xm_S hkT _ _) dS_justify_25 (fun H locs hP hS => ?_)
    generalize heI8 : mu I7 jT 5 0 = I8 at hP
    have h := h I8 heI8.symm
    refine lv_aload_n hx hb dS_justify_28 rfl (lv_at hl 0 rfl) ?_
    refine lv_iconst (v := 0) hx hb dS_justify_29 (by decide) ?_
    refine mr_puti hx hb htb inS tyS tyS_ok nmS hown hK hP hD hS jT (xk_lt hkT (by decide)) (xm_S hkT _ _) rfl 6 (by decide) (htb _ k1_67) (fun _ h9 => h9) rfl (by decide +kernel) (Nat.le_of_ble_eq_true rfl) (xm_S hkT _ _) dS_justify_30 (fun H locs hP hS => ?_)
    generalize heI9 : mu I8 jT 6 0 = I9 at hP
    have h := h I9 heI9.symm
    exact me_v hx hb hr hlk hP hS h dS_justify_33
def wp_I_copyFrom (R : mI → mJ → Prop) (I0 : mI) (J0 : mJ) (jT : Nat) (j1 : Nat) : Prop :=
  (∀ (I1 : mI), I1 = mu I0 jT 2 (I0 j1 2) → (∀ (I2 : mI), I2 = mrow I1 (jT + 1) (va_cpy (I1 (j1 + 1)) (I1 (jT + 1)) (0 : Int32).toNatClampNeg (0 : Int32).toNatClampNeg (4 : Int32).toNatClampNeg) → (∀ (I3 : mI), I3 = mrow I2 (jT + 2) (va_cpy (I2 (j1 + 2)) (I2 (jT + 2)) (0 : Int32).toNatClampNeg (0 : Int32).toNatClampNeg (4 : Int32).toNatClampNeg) → R I3 J0)))
theorem P_I_copyFrom (I0 : mI) (J0 : mJ) (jT : Nat) (j1 : Nat) (hkT : xk jT = 4) (hk1 : xk j1 = 4)   (R : mI → mJ → Prop)  (hR : ∀ (I' : mI) (J' : mJ), qI_copyFrom I0 J0 jT j1 I' J' → R I' J') : wp_I_copyFrom R I0 J0 jT j1 := by
  have n1 : j1 ≠ jT + 1 := fun e => by
    have := xk_I1 hkT
    rw [← e, hk1] at this
    exact absurd this (by decide)
  have n2 : j1 + 1 ≠ jT := fun e => by
    have := xk_I1 hk1
    rw [e, hkT] at this
    exact absurd this (by decide)
  have n3 : j1 + 2 ≠ jT := fun e => by
    have := xk_I2 hk1
    rw [e, hkT] at this
    exact absurd this (by decide)
  unfold wp_I_copyFrom
  intro I1 e1 I2 e2 I3 e3
  apply hR
  refine ⟨rfl, fun a h1 h2 h3 => ?_, ?_, fun i hi => ⟨?_, ?_⟩⟩
  · rw [e3, mrow_other _ _ h3, e2, mrow_other _ _ h2, e1, mu_other _ _ _ h1]
  · rw [e3, mrow_other _ _ (by omega), e2, mrow_other _ _ (by omega), e1, mu_self]
    rfl
  · rw [e3, mrow_other _ _ (by omega), e2, mrow_self, cpy4 _ _ hi, e1, mu_other _ _ _ n2]
  · rw [e3, mrow_self, cpy4 _ _ hi, e2, mrow_other _ _ (by omega), e1, mu_other _ _ _ n3]
set_option maxHeartbeats 4000000 in
set_option maxRecDepth 100000 in
theorem C_I_copyFrom (l : Launch) (D : va_G) (ca : Nat → Nat) (ad : Nat → Nat) (I0 : mI) (J0 : mJ) (jT : Nat) (j1 : Nat) (hkT : xk jT = 4) (hk1 : xk j1 = 4)  : Met l yI_copyFrom wI_copyFrom ({ frames := 1, cells := 0, slots := 0, locals := 40 } : Room) (va_Pc [.ref (ad jT), .ref (ad j1)] (mPre D vwCl (xty ca) 459 ad (xmk ca ad) nL I0 J0)) (mQv D vwCl 459 ad (xmk ca ad) (qI_copyFrom I0 J0 jT j1)) 0 0 (mA 459 ad) := by
  refine Met.ofW (cc := cI_copyFrom) (maxL := 2) (ret := none) (by decide) rfl ?_
  intro p e s m args below meth c s₁ B hml hv
  obtain ⟨rfl, hP, hK, hD0, hN⟩ := hv
  have hx := B.exec
  have hb := B.bytes
  have hr := B.returns
  have htb : ∀ w ∈ wb, w.before _ s = true := fun w h => atoms_spec (ws := wI_copyFrom) B.pre w (List.mem_cons_of_mem _ h)
  have hown : s.vm.findClass RI = some m.cls := findClass_of_methodNamed B.named
  have hlk := B.notSynchronized
  have hD := mw_Dm hD0
  have hS : va_S (mA 459 ad) s.heap s.heap [] := va_S.rf
  have hl := lv_entry ([.ref (ad jT), .ref (ad j1)]) (n := 2) (Nat.le_of_ble_eq_true rfl)
  rw [lg_entry_eq]
  generalize (lg_sl ([.ref (ad jT), .ref (ad j1)]) ++ List.replicate (2 - (lg_sl ([.ref (ad jT), .ref (ad j1)])).length) Slot.unset).toArray = ls at hl ⊢
  have hl : lv_has ls 2 [(0, .ref (ad jT)), (1, .ref (ad j1))] := hl
  have h := P_I_copyFrom I0 J0 jT j1 hkT hk1   (qI_copyFrom I0 J0 jT j1)  (fun _ _ h => h)
  unfold wp_I_copyFrom at h
  refine lv_aload_n hx hb dI_copyFrom_0 rfl (lv_at hl 0 rfl) ?_
  refine lv_aload_n hx hb dI_copyFrom_1 rfl (lv_at hl 1 rfl) ?_
  refine va_get (D := D) (ci := 1) (v := .int (I0 j1 2)) (C := RI) (T := TI) (N := 3) hx hb htb inI hown hK hP j1 (mw_at (xk_lt hk1 (by decide)) (xm_I hk1 _ _)) rfl 2 (by decide) (htb _ k1_41) (fun _ h9 => h9) rfl dI_copyFrom_2 ?_
  refine mr_puti hx hb htb inI tyI tyI_ok nmI hown hK hP hD hS jT (xk_lt hkT (by decide)) (xm_I hkT _ _) rfl 2 (by decide) (htb _ k1_41) (fun _ h9 => h9) rfl (by decide +kernel) (Nat.le_of_ble_eq_true rfl) (xm_I hkT _ _) dI_copyFrom_5 (fun H locs hP hS => ?_)
  generalize heI1 : mu I0 jT 2 (I0 j1 2) = I1 at hP
  have h := h I1 heI1.symm
  refine lv_aload_n hx hb dI_copyFrom_8 rfl (lv_at hl 1 rfl) ?_
  refine va_get (D := D) (ci := 1) (v := .ref (ad (j1 + 1))) (C := RI) (T := TI) (N := 3) hx hb htb inI hown hK hP j1 (mw_at (xk_lt hk1 (by decide)) (xm_I hk1 _ _)) rfl 0 (by decide) (htb _ k1_37) (fun _ h9 => h9) rfl dI_copyFrom_9 ?_
  refine lv_iconst (v := 0) hx hb dI_copyFrom_12 (by decide) ?_
  refine lv_aload_n hx hb dI_copyFrom_13 rfl (lv_at hl 0 rfl) ?_
  refine va_get (D := D) (ci := 1) (v := .ref (ad (jT + 1))) (C := RI) (T := TI) (N := 3) hx hb htb inI hown hK hP jT (mw_at (xk_lt hkT (by decide)) (xm_I hkT _ _)) rfl 0 (by decide) (htb _ k1_37) (fun _ h9 => h9) rfl dI_copyFrom_14 ?_
  refine lv_iconst (v := 0) hx hb dI_copyFrom_17 (by decide) ?_
  refine lv_iconst (v := 4) hx hb dI_copyFrom_18 (by decide) ?_
  refine mr_copyi hx hb (by rw [hml]; exact hl.1.symm) hown (htb _ k2_67) (htb _ k2_28) (htb _ k2_27) (htb _ k1_9) hK hP hD hS (j1 + 1) (jT + 1) 0 (xk_lt (xk_I1 hk1) (by decide)) (xk_lt (xk_I1 hkT) (by decide)) (xm_4 (xk_I1 hk1) _ _) (fun f => xm_4 (xk_I1 hkT) f _) rfl (by decide) (by decide) (by decide) (by decide) (by decide) (Nat.le_of_ble_eq_true rfl) (Nat.le_of_ble_eq_true rfl) dI_copyFrom_19 (fun H locs hP hS => ?_)
  generalize heI2 : mrow I1 (jT + 1) (va_cpy (I1 (j1 + 1)) (I1 (jT + 1)) (0 : Int32).toNatClampNeg (0 : Int32).toNatClampNeg (4 : Int32).toNatClampNeg) = I2 at hP
  have h := h I2 heI2.symm
  refine lv_aload_n hx hb dI_copyFrom_22 rfl (lv_at hl 1 rfl) ?_
  refine va_get (D := D) (ci := 1) (v := .ref (ad (j1 + 2))) (C := RI) (T := TI) (N := 3) hx hb htb inI hown hK hP j1 (mw_at (xk_lt hk1 (by decide)) (xm_I hk1 _ _)) rfl 1 (by decide) (htb _ k1_39) (fun _ h9 => h9) rfl dI_copyFrom_23 ?_
  refine lv_iconst (v := 0) hx hb dI_copyFrom_26 (by decide) ?_
  refine lv_aload_n hx hb dI_copyFrom_27 rfl (lv_at hl 0 rfl) ?_
  refine va_get (D := D) (ci := 1) (v := .ref (ad (jT + 2))) (C := RI) (T := TI) (N := 3) hx hb htb inI hown hK hP jT (mw_at (xk_lt hkT (by decide)) (xm_I hkT _ _)) rfl 1 (by decide) (htb _ k1_39) (fun _ h9 => h9) rfl dI_copyFrom_28 ?_
  refine lv_iconst (v := 0) hx hb dI_copyFrom_31 (by decide) ?_
  refine lv_iconst (v := 4) hx hb dI_copyFrom_32 (by decide) ?_
  refine mr_copyi hx hb (by rw [hml]; exact hl.1.symm) hown (htb _ k2_67) (htb _ k2_28) (htb _ k2_27) (htb _ k1_9) hK hP hD hS (j1 + 2) (jT + 2) 0 (xk_lt (xk_I2 hk1) (by decide)) (xk_lt (xk_I2 hkT) (by decide)) (xm_4 (xk_I2 hk1) _ _) (fun f => xm_4 (xk_I2 hkT) f _) rfl (by decide) (by decide) (by decide) (by decide) (by decide) (Nat.le_of_ble_eq_true rfl) (Nat.le_of_ble_eq_true rfl) dI_copyFrom_33 (fun H locs hP hS => ?_)
  generalize heI3 : mrow I2 (jT + 2) (va_cpy (I2 (j1 + 2)) (I2 (jT + 2)) (0 : Int32).toNatClampNeg (0 : Int32).toNatClampNeg (4 : Int32).toNatClampNeg) = I3 at hP
  have h := h I3 heI3.symm
  exact me_v hx hb hr hlk hP hS h dI_copyFrom_36
def wp_F_takeEvidence (R : Int32 → mI → mJ → Prop) (I0 : mI) (J0 : mJ) (a1 : Int32) (a2 : Int32) : Prop :=
  (((fF_isIn I0 J0 (I0 457 1) a1) = 0 → (∀ (I2 : mI), I2 = mu I0 457 1 ((I0 457 1) ||| ((1 : Int32) <<< (a1 &&& 31))) → (vp_in a1 7 ∧ (vp_in a1 7 ∧ (∀ (I5 : mI), I5 = mu I2 (457 + 1) a1.toNatClampNeg ((I2 (457 + 1) a1.toNatClampNeg) / 2) → (vp_in a2 7 ∧ (vp_in a2 7 ∧ (∀ (I8 : mI), I8 = mu I5 (457 + 1) a2.toNatClampNeg ((I5 (457 + 1) a2.toNatClampNeg) + 5) → R 1 I8 J0)))))))) ∧ (¬ ((fF_isIn I0 J0 (I0 457 1) a1) = 0) → R 0 I0 J0))
theorem P_F_takeEvidence (I0 : mI) (J0 : mJ) (a1 : Int32) (a2 : Int32)  (hp : pF_takeEvidence I0 J0 a1 a2)  (R : Int32 → mI → mJ → Prop)  (hR : ∀ (r : Int32) (I' : mI) (J' : mJ), qF_takeEvidence I0 J0 a1 a2 r I' J' → R r I' J') : wp_F_takeEvidence R I0 J0 a1 a2 := by
  obtain ⟨v, p, hv, hpp, rfl, rfl⟩ := hp
  unfold qF_takeEvidence at hR
  rw [cN_nI (n := v) (by omega), cN_nI (n := p) (by omega)] at hR
  unfold wp_F_takeEvidence fF_isIn
  rw [fBit_bz _ (by omega), show (nI v).toNatClampNeg = v from nI_clamp (by omega), show (nI p).toNatClampNeg = p from nI_clamp (by omega)]
  refine ⟨fun h I2 e2 => ⟨i7_of hv, i7_of hv, fun I5 e5 => ⟨i7_of hpp, i7_of hpp, fun I8 e8 => hR _ _ _ ⟨rfl, fun x h1 h2 => ?_, Or.inr rfl, fun q hq => ⟨fun _ => ⟨rfl, ?_⟩, fun z => ?_⟩⟩⟩⟩, fun h => hR _ _ _ ⟨rfl, fun _ _ _ => rfl, Or.inl rfl, fun q hq => ⟨fun z => ?_, fun _ => rfl⟩⟩⟩
  · rw [e8, mu_other _ _ _ h2, e5, mu_other _ _ _ h2, e2, mu_other _ _ _ h1]
  · obtain ⟨q1, q2, q3, q4, q5, q6, q7⟩ := hq
    have rs : ∀ k, k ≠ 1 → I8 457 k = I0 457 k := fun k hk => by
      rw [e8, mu_other _ _ _ (by omega), e5, mu_other _ _ _ (by omega), e2, mu_at, if_neg (fun y => hk y.2)]
    have r1 : I8 457 1 = I0 457 1 ||| ((1 : Int32) <<< (nI v &&& 31)) := by
      rw [e8, mu_other _ _ _ (by omega), e5, mu_other _ _ _ (by omega), e2, mu_at, if_pos ⟨rfl, rfl⟩]
    have b2 : I2 (457 + 1) = I0 (457 + 1) := by rw [e2]; exact mu_other _ _ _ (by omega)
    have b5 : ∀ w, w < 7 → I5 (457 + 1) w = upd (gB q) v (gB q v / 2) w := fun w hw => by
      rw [e5, mu_at, b2]
      unfold upd
      by_cases ew : w = v
      · rw [if_pos ⟨rfl, ew⟩, if_pos ew, q1 v hv]
      · rw [if_neg (fun y => ew y.2), if_neg ew, q1 w hw]
    refine ⟨fun w hw => ?_, fun w hw => ?_, by rw [rs 2 (by omega)]; exact q3, by rw [rs 3 (by omega)]; exact q4, by rw [rs 4 (by omega)]; exact q5, fun w hw => by rw [rs 5 (by omega)]; exact q6 w hw, fun w hw => by rw [rs 6 (by omega)]; exact q7 w hw⟩
    · rw [e8, mu_at]
      show _ = upd (upd (gB q) v (gB q v / 2)) p (upd (gB q) v (gB q v / 2) p + 5) w
      rw [b5 p hpp]
      by_cases ew : w = p
      · rw [if_pos ⟨rfl, ew⟩, ew, pk_us]
      · rw [if_neg (fun y => ew y.2), b5 w hw, pk_un ew]
    · rw [r1, bi_set _ (by omega) (by omega), q2 w hw]
      show _ = bU (gP q) v w
      unfold bU
      by_cases ew : w = v
      · rw [if_pos ew, decide_eq_true ew.symm, Bool.or_true]
      · rw [if_neg ew, decide_eq_false (fun y => ew y.symm), Bool.or_false]
  · rw [hq.2.1 v hv, z] at h
    exact absurd h (by decide)
  · rw [hq.2.1 v hv, z] at h
    exact absurd rfl h
set_option maxHeartbeats 4000000 in
set_option maxRecDepth 100000 in
theorem C_F_takeEvidence (l : Launch) (D : va_G) (ca : Nat → Nat) (ad : Nat → Nat) (I0 : mI) (J0 : mJ) (a1 : Int32) (a2 : Int32)  (hp : pF_takeEvidence I0 J0 a1 a2) : Met l yF_takeEvidence wF_takeEvidence ({ frames := 1, cells := 0, slots := 0, locals := 21 } : Room) (va_Pc [.ref (ad 0), .int a1, .int a2] (mPre D vwCl (xty ca) 459 ad (xmk ca ad) nL I0 J0)) (mQi D vwCl 459 ad (xmk ca ad) (qF_takeEvidence I0 J0 a1 a2)) 0 0 (mA 459 ad) := by
  refine Met.ofW (cc := cF_takeEvidence) (maxL := 3) (ret := (some .boolean)) (by decide) rfl ?_
  intro p e s m args below meth c s₁ B hml hv
  obtain ⟨rfl, hP, hK, hD0, hN⟩ := hv
  have hx := B.exec
  have hb := B.bytes
  have hr := B.returns
  have htb : ∀ w ∈ wb, w.before _ s = true := fun w h => atoms_spec (ws := wF_takeEvidence) B.pre w (List.mem_cons_of_mem _ h)
  have hown : s.vm.findClass RF = some m.cls := findClass_of_methodNamed B.named
  have hlk := B.notSynchronized
  have hD := mw_Dm hD0
  have hS : va_S (mA 459 ad) s.heap s.heap [] := va_S.rf
  have hl := lv_entry ([.ref (ad 0), .int a1, .int a2]) (n := 3) (Nat.le_of_ble_eq_true rfl)
  rw [lg_entry_eq]
  generalize (lg_sl ([.ref (ad 0), .int a1, .int a2]) ++ List.replicate (3 - (lg_sl ([.ref (ad 0), .int a1, .int a2])).length) Slot.unset).toArray = ls at hl ⊢
  have hl : lv_has ls 3 [(0, .ref (ad 0)), (1, .int a1), (2, .int a2)] := hl
  have h := P_F_takeEvidence I0 J0 a1 a2  hp  (qF_takeEvidence I0 J0 a1 a2)  (fun _ _ _ h => h)
  unfold wp_F_takeEvidence at h
  refine lv_aload_n hx hb dF_takeEvidence_0 rfl (lv_at hl 0 rfl) ?_
  refine va_get (D := D) (ci := 5) (v := .ref (ad 457)) (C := RF) (T := TF) (N := 11) hx hb htb inF hown hK hP 0 (mw_at (xk_lt (show xk 0 = 0 from rfl) (by decide)) (xm_F (show xk 0 = 0 from rfl) _ _)) rfl 10 (by decide) (htb _ k1_172) (fun _ h9 => h9) rfl dF_takeEvidence_1 ?_
  refine va_get (D := D) (ci := 3) (v := .int (I0 457 1)) (C := RS) (T := TS) (N := 7) hx hb htb inS hown hK hP 457 (mw_at (xk_lt (show xk 457 = 6 from rfl) (by decide)) (xm_S (show xk 457 = 6 from rfl) _ _)) rfl 1 (by decide) (htb _ k1_60) (fun _ h9 => h9) rfl dF_takeEvidence_4 ?_
  refine lv_iload_n hx hb dF_takeEvidence_7 rfl (lv_at hl 1 rfl) ?_
  refine mc_r (va_runS (As := [.int (I0 457 1), .int a1]) (rest := []) ⟨hx, hb, hml, hown, htb⟩ (C_F_isIn l D ca ad I0 J0 (I0 457 1) a1) (va_cwS 2 htb (gd_s k2_19 k2_20 k1_1 k2_21) rfl rfl rfl (by decide +kernel) ⟨Nat.le_of_ble_eq_true rfl, Nat.le_of_ble_eq_true rfl⟩) (mPre_S hK hP hD hN) rfl rfl hl.1 rfl (lv_room (Nat.le_of_ble_eq_true rfl)) dF_takeEvidence_8 ⟨Nat.le_of_ble_eq_true rfl, Nat.le_of_ble_eq_true rfl⟩) hS (fun H locs hP hS => ?_)
  refine lv_if_eq (tgt := 16) hx hb dF_takeEvidence_11 (by decide) (fun hc => ?_) (fun hc => ?_)
  · have h := h.1 hc
    refine lv_aload_n hx hb dF_takeEvidence_16 rfl (lv_at hl 0 rfl) ?_
    refine va_get (D := D) (ci := 5) (v := .ref (ad 457)) (C := RF) (T := TF) (N := 11) hx hb htb inF hown hK hP 0 (mw_at (xk_lt (show xk 0 = 0 from rfl) (by decide)) (xm_F (show xk 0 = 0 from rfl) _ _)) rfl 10 (by decide) (htb _ k1_172) (fun _ h9 => h9) rfl dF_takeEvidence_17 ?_
    refine lv_dup hx hb dF_takeEvidence_20 rfl ?_
    refine va_get (D := D) (ci := 3) (v := .int (I0 457 1)) (C := RS) (T := TS) (N := 7) hx hb htb inS hown hK hP 457 (mw_at (xk_lt (show xk 457 = 6 from rfl) (by decide)) (xm_S (show xk 457 = 6 from rfl) _ _)) rfl 1 (by decide) (htb _ k1_60) (fun _ h9 => h9) rfl dF_takeEvidence_21 ?_
    refine lv_iconst (v := 1) hx hb dF_takeEvidence_24 (by decide) ?_
    refine lv_iload_n hx hb dF_takeEvidence_25 rfl (lv_at hl 1 rfl) ?_
    refine lv_ishl hx hb dF_takeEvidence_26 ?_
    refine lv_ior hx hb dF_takeEvidence_27 ?_
    refine mr_puti hx hb htb inS tyS tyS_ok nmS hown hK hP hD hS 457 (xk_lt (show xk 457 = 6 from rfl) (by decide)) (xm_S (show xk 457 = 6 from rfl) _ _) rfl 1 (by decide) (htb _ k1_60) (fun _ h9 => h9) rfl (by decide +kernel) (Nat.le_of_ble_eq_true rfl) (xm_S (show xk 457 = 6 from rfl) _ _) dF_takeEvidence_28 (fun H locs hP hS => ?_)
    generalize heI2 : mu I0 457 1 ((I0 457 1) ||| ((1 : Int32) <<< (a1 &&& 31))) = I2 at hP
    have h := h I2 heI2.symm
    refine lv_aload_n hx hb dF_takeEvidence_31 rfl (lv_at hl 0 rfl) ?_
    refine va_get (D := D) (ci := 5) (v := .ref (ad 457)) (C := RF) (T := TF) (N := 11) hx hb htb inF hown hK hP 0 (mw_at (xk_lt (show xk 0 = 0 from rfl) (by decide)) (xm_F (show xk 0 = 0 from rfl) _ _)) rfl 10 (by decide) (htb _ k1_172) (fun _ h9 => h9) rfl dF_takeEvidence_32 ?_
    refine va_get (D := D) (ci := 3) (v := .ref (ad (457 + 1))) (C := RS) (T := TS) (N := 7) hx hb htb inS hown hK hP 457 (mw_at (xk_lt (show xk 457 = 6 from rfl) (by decide)) (xm_S (show xk 457 = 6 from rfl) _ _)) rfl 0 (by decide) (htb _ k1_58) (fun _ h9 => h9) rfl dF_takeEvidence_35 ?_
    refine lv_iload_n hx hb dF_takeEvidence_38 rfl (lv_at hl 1 rfl) ?_
    refine lv_dup2_11 hx hb dF_takeEvidence_39 rfl rfl ?_
    obtain ⟨hn3, h⟩ := h
    refine mr_iald hx hb hK hP (457 + 1) 0 (xk_lt (xk_SB (show xk 457 = 6 from rfl)) (by decide)) (xm_7 (xk_SB (show xk 457 = 6 from rfl)) _ _) rfl hn3 dF_takeEvidence_40 ?_
    refine lv_iconst (v := 2) hx hb dF_takeEvidence_41 (by decide) ?_
    refine lv_idiv hx hb dF_takeEvidence_42 (by decide) ?_
    obtain ⟨hn4, h⟩ := h
    refine mr_iast hx hb hK hP hD hS (457 + 1) 0 (xk_lt (xk_SB (show xk 457 = 6 from rfl)) (by decide)) (fun f => xm_7 (xk_SB (show xk 457 = 6 from rfl)) f _) rfl hn4 dF_takeEvidence_43 (fun H locs hP hS => ?_)
    generalize heI5 : mu I2 (457 + 1) a1.toNatClampNeg ((I2 (457 + 1) a1.toNatClampNeg) / 2) = I5 at hP
    have h := h I5 heI5.symm
    refine lv_aload_n hx hb dF_takeEvidence_44 rfl (lv_at hl 0 rfl) ?_
    refine va_get (D := D) (ci := 5) (v := .ref (ad 457)) (C := RF) (T := TF) (N := 11) hx hb htb inF hown hK hP 0 (mw_at (xk_lt (show xk 0 = 0 from rfl) (by decide)) (xm_F (show xk 0 = 0 from rfl) _ _)) rfl 10 (by decide) (htb _ k1_172) (fun _ h9 => h9) rfl dF_takeEvidence_45 ?_
    refine va_get (D := D) (ci := 3) (v := .ref (ad (457 + 1))) (C := RS) (T := TS) (N := 7) hx hb htb inS hown hK hP 457 (mw_at (xk_lt (show xk 457 = 6 from rfl) (by decide)) (xm_S (show xk 457 = 6 from rfl) _ _)) rfl 0 (by decide) (htb _ k1_58) (fun _ h9 => h9) rfl dF_takeEvidence_48 ?_
    refine lv_iload_n hx hb dF_takeEvidence_51 rfl (lv_at hl 2 rfl) ?_
    refine lv_dup2_11 hx hb dF_takeEvidence_52 rfl rfl ?_
    obtain ⟨hn6, h⟩ := h
    refine mr_iald hx hb hK hP (457 + 1) 0 (xk_lt (xk_SB (show xk 457 = 6 from rfl)) (by decide)) (xm_7 (xk_SB (show xk 457 = 6 from rfl)) _ _) rfl hn6 dF_takeEvidence_53 ?_
    refine lv_iconst (v := 5) hx hb dF_takeEvidence_54 (by decide) ?_
    refine lv_iadd hx hb dF_takeEvidence_55 ?_
    obtain ⟨hn7, h⟩ := h
    refine mr_iast hx hb hK hP hD hS (457 + 1) 0 (xk_lt (xk_SB (show xk 457 = 6 from rfl)) (by decide)) (fun f => xm_7 (xk_SB (show xk 457 = 6 from rfl)) f _) rfl hn7 dF_takeEvidence_56 (fun H locs hP hS => ?_)
    generalize heI8 : mu I5 (457 + 1) a2.toNatClampNeg ((I5 (457 + 1) a2.toNatClampNeg) + 5) = I8 at hP
    have h := h I8 heI8.symm
    refine lv_iconst (v := 1) hx hb dF_takeEvidence_57 (by decide) ?_
    exact me_z hx hb hr hlk hP hS rfl h dF_takeEvidence_58
  · have h := h.2 hc
    refine lv_iconst (v := 0) hx hb dF_takeEvidence_14 (by decide) ?_
    exact me_z hx hb hr hlk hP hS rfl h dF_takeEvidence_15
def wp_F_takeVote (R : Int32 → mI → mJ → Prop) (I0 : mI) (J0 : mJ) (j1 : Nat) (a2 : Int32) (a3 : Int32) : Prop :=
  ((a3 ≤ (I0 j1 1) → R 0 I0 J0) ∧ (¬ (a3 ≤ (I0 j1 1)) → (((a3 - (I0 0 1)) ≤ (I0 j1 1) → (¬ (I0 0 1) = 0 ∧ ((¬ ((I0 j1 3) = (I0 457 2)) → R 0 I0 J0) ∧ ((I0 j1 3) = (I0 457 2) → (∃ (S2 : mI), (pF_checkpointOn S2 I0 J0 a2 ((I0 j1 1) / (I0 0 1)) ∧ (((I0 j1 4) = (fF_checkpointOn S2 I0 J0 a2 ((I0 j1 1) / (I0 0 1))) → (((fF_isIn I0 J0 (fS_countedFor I0 J0 457 ((I0 j1 1) / (I0 0 1))) (I0 j1 0)) = 0 → (∀ (I8 : mI) (J9 : mJ), qS_addCounted I0 J0 457 ((I0 j1 1) / (I0 0 1)) (I0 j1 0) I8 J9 → (vp_in (I8 j1 0) 7 ∧ (vp_in (I8 j1 0) 7 ∧ (∀ (I12 : mI), I12 = mu I8 (457 + 1) (I8 j1 0).toNatClampNeg ((I8 (457 + 1) (I8 j1 0).toNatClampNeg) + 2) → (¬ (I12 0 0) = 0 ∧ (vp_in (a3 - a3 / (I12 0 0) * (I12 0 0)) 7 ∧ (vp_in (a3 - a3 / (I12 0 0) * (I12 0 0)) 7 ∧ (∀ (I16 : mI), I16 = mu I12 (457 + 1) (a3 - a3 / (I12 0 0) * (I12 0 0)).toNatClampNeg ((I12 (457 + 1) (a3 - a3 / (I12 0 0) * (I12 0 0)).toNatClampNeg) + 1) → (∃ (S18 : mI), (pF_weightOf S18 I16 J9 (fS_countedFor I16 J9 457 ((I0 j1 1) / (I0 0 1))) ∧ (((3 * (fF_weightOf S18 I16 J9 (fS_countedFor I16 J9 457 ((I0 j1 1) / (I0 0 1))))) < (2 * (I16 0 3)) → R 1 I16 J9) ∧ (¬ ((3 * (fF_weightOf S18 I16 J9 (fS_countedFor I16 J9 457 ((I0 j1 1) / (I0 0 1))))) < (2 * (I16 0 3))) → (∀ (I22 : mI) (J23 : mJ), qS_justify I16 J9 457 (I16 j1 3) (I16 j1 4) I22 J23 → R 1 I22 J23)))))))))))))) ∧ (¬ ((fF_isIn I0 J0 (fS_countedFor I0 J0 457 ((I0 j1 1) / (I0 0 1))) (I0 j1 0)) = 0) → R 0 I0 J0))) ∧ (¬ ((I0 j1 4) = (fF_checkpointOn S2 I0 J0 a2 ((I0 j1 1) / (I0 0 1)))) → R 0 I0 J0)))))))) ∧ (¬ ((a3 - (I0 0 1)) ≤ (I0 j1 1)) → R 0 I0 J0))))
theorem P_F_takeVote (S : mI) (I0 : mI) (J0 : mJ) (j1 : Nat) (a2 : Int32) (a3 : Int32) (hk1 : xk j1 = 8) (hp : pF_takeVote S I0 J0 j1 a2 a3)  (R : Int32 → mI → mJ → Prop)  (hR : ∀ (r : Int32) (I' : mI) (J' : mJ), qF_takeVote S I0 J0 j1 a2 a3 r I' J' → R r I' J') : wp_F_takeVote R I0 J0 j1 a2 a3 := by
  obtain ⟨hX, ⟨i, hi, rfl⟩, ⟨p, hp0, rfl⟩, ⟨s, hs1, hs2, rfl⟩, ⟨q0, hq0, hge⟩⟩ := hp
  have hb := hX.1.b
  have vi := hX.1.v hi
  rw [cN_nI (n := s) (by omega)] at hge
  unfold qF_takeVote at hR
  rw [cN_nI (n := p) (by omega), cN_nI (n := s) (by omega), show 364 + i - 364 = i from by omega] at hR
  have hln : ¬ (I0 0 1) = 0 := by rw [hX.ln]; exact nI_ne0 (by omega) (by omega)
  have hse : zVs S i / zLn S ≤ 240 := by rw [← vi.2.2.2.2.2.2.2]; exact vi.2.2.2.2.2.1
  have no : (∀ q, xE q I0 457 → gE q = s / zLn S → ¬ gOk S q p s i) → R 0 I0 J0 := fun z => hR _ _ _ ⟨rfl, fun _ _ _ => rfl, Or.inl rfl, fun q hq _ hg => ⟨fun y => absurd y (z q hq hg), fun _ => rfl⟩⟩
  unfold wp_F_takeVote
  rw [hX.v1 hi, hX.v3 hi, hX.v4 hi, hX.v0 hi]
  refine ⟨fun h => no (fun q _ _ z => ?_), fun h => ⟨fun h2 => ⟨hln, fun h3 => no (fun q hq _ z => ?_), fun h3 => ?_⟩, fun h2 => no (fun q _ _ z => ?_)⟩⟩
  · rw [nI_leI (by omega) (by omega)] at h
    have := z.2.2.1
    omega
  · apply h3
    rw [hq.2.2.1, z.1, z.2.1]
  · rw [hX.ln] at h2
    have h1 : zVs S i < s := by
      rw [nI_leI (by omega) (by omega)] at h
      omega
    have h22 : s ≤ zVs S i + zLn S := (sub_le (by omega) (by omega) (by omega)).mp h2
    have ed : nI (zVs S i) / I0 0 1 = nI (zVs S i / zLn S) := by rw [hX.ln]; exact pk_div (by omega) (by omega) (by omega)
    rw [ed]
    refine ⟨S, ⟨hX, ⟨p, hp0, rfl⟩, ⟨_, hse, rfl⟩⟩, ?_⟩
    unfold fF_checkpointOn fF_isIn
    rw [cN_nI (n := p) (by omega), cN_nI (n := zVs S i / zLn S) (by omega), fBit_bz _ (by omega)]
    have hz := zC_all hX.1.up hX.1.s0 (zVs S i / zLn S) p p (Nat.le_refl _) hp0
    have hds := Nat.div_le_self s (zLn S)
    have hep : zVs S i / zLn S = s / zLn S ∨ zVs S i / zLn S + 1 = s / zLn S := by
      have a1 : zVs S i / zLn S ≤ s / zLn S := Nat.div_le_div_right (Nat.le_of_lt h1)
      have a2 : s / zLn S ≤ (zVs S i + zLn S) / zLn S := Nat.div_le_div_right h22
      rw [Nat.add_div_right _ (by omega)] at a2
      omega
    have cnt : ∀ (I : mI) (J : mJ) (q : sg), gE q = s / zLn S → I 457 4 = nI (gE q) → ∀ w, bt (fS_countedFor I J 457 (nI (zVs S i / zLn S))) w = (if zVs S i / zLn S = gE q then bt (I 457 5) w else bt (I 457 6) w) := fun I J q hg h4 w => by
      unfold fS_countedFor
      rw [h4, hg]
      rcases hep with e | e
      · rw [if_pos (by rw [e]), if_pos e]
      · rw [if_neg (show ¬ nI (zVs S i / zLn S) = nI (s / zLn S) from fun y => by rw [nI_eq (by omega) (by omega)] at y; omega), if_pos ((eq_pred (by omega) (by omega)).mpr e), if_neg (show ¬ zVs S i / zLn S = s / zLn S by omega)]
    refine ⟨fun h4 => ⟨fun h5 I8 J9 hq8 => ?_, fun h5 => no (fun q hq hg z => ?_)⟩, fun h4 => no (fun q _ _ z => ?_)⟩
    · obtain ⟨rfl, e8⟩ := hq8
      have htb : zTb S i = zC S p (zVs S i / zLn S) := by
        rw [vi.2.2.2.2.2.2.2, nI_eq (by omega) (by omega)] at h4
        omega
      have ok : ∀ q, xE q I0 457 → gW (zNv S) (zBc S) q → gE q = s / zLn S → gOk S q p s i := fun q hq hw hg => by
        unfold gW at hw
        have e2 := hq.2.2.1
        rw [← h3, nI_eq (by omega) (by omega)] at e2
        rw [cnt I0 J9 q hg hq.2.2.2.2.1] at h5
        have h6 := bz_0.mp h5
        refine ⟨by omega, by omega, h1, h22, htb, ?_⟩
        by_cases c : zVs S i / zLn S = gE q
        · rw [if_pos c] at h6 ⊢
          rw [hq.2.2.2.2.2.1 _ (by omega)] at h6; exact h6
        · rw [if_neg c] at h6 ⊢
          rw [hq.2.2.2.2.2.2 _ (by omega)] at h6; exact h6
      have r8 : ∀ x, x ≠ 457 → I8 x = I0 x := fun x hx => by
        rw [e8]
        by_cases c : nI (zVs S i / zLn S) = I0 457 4
        · rw [if_pos c]; exact mu_other _ _ _ hx
        · rw [if_neg c]; exact mu_other _ _ _ hx
      have ev : (nI (zVr S i)).toNatClampNeg = zVr S i := nI_clamp (by omega)
      rw [r8 (364 + i) (by omega), hX.v0 hi, ev]
      refine ⟨i7_of (by omega), i7_of (by omega), fun I12 e12 => ?_⟩
      have n12 : I12 0 0 = nI (zNv S) := by rw [e12, mu_other _ _ _ (by omega), r8 0 (by omega)]; exact hX.nv
      rw [n12, pk_rem (by omega) (by omega) (by omega), show (nI (s % zNv S)).toNatClampNeg = s % zNv S from nI_clamp (by have := Nat.mod_lt s (show 0 < zNv S by omega); omega)]
      have hmod := Nat.mod_lt s (show 0 < zNv S by omega)
      refine ⟨nI_ne0 (by omega) (by omega), i7_of (by omega), i7_of (by omega), fun I16 e16 => ?_⟩
      have r16 : ∀ x, x ≠ 457 → x ≠ 457 + 1 → I16 x = I0 x := fun x hx hx2 => by
        rw [e16, mu_other _ _ _ hx2, e12, mu_other _ _ _ hx2]; exact r8 x hx
      have hX16 : XR S I16 J9 := hX.dr (fun j hj => r16 j (by omega) (by omega)) rfl
      have f16 : I16 457 = I8 457 := by rw [e16, mu_other _ _ _ (by omega), e12, mu_other _ _ _ (by omega)]
      have x16 : ∀ q, xE q I0 457 → gE q = s / zLn S → xE (gE q, gCb S q s i, gP q, gCn S q i, gCo S q i, gJe q, gJb q, gFe q, gFb q) I16 457 := fun q hq hg => by
        obtain ⟨q1, q2, q3, q4, q5, q6, q7⟩ := hq
        have c4 : nI (zVs S i / zLn S) = I0 457 4 ↔ zVs S i / zLn S = gE q := by rw [q5]; exact nI_eq (by omega) (by omega)
        have k8 : ∀ k, k ≠ 5 → k ≠ 6 → I16 457 k = I0 457 k := fun k hk hk2 => by
          rw [f16, e8]
          by_cases c : nI (zVs S i / zLn S) = I0 457 4
          · rw [if_pos c, mu_at, if_neg (fun y => hk y.2)]
          · rw [if_neg c, mu_at, if_neg (fun y => hk2 y.2)]
        have b12 : ∀ w, w < 7 → I12 (457 + 1) w = upd (gB q) (zVr S i) (gB q (zVr S i) + 2) w := fun w hw => by
          rw [e12, mu_at, r8 (457 + 1) (by omega)]
          unfold upd
          by_cases ew : w = zVr S i
          · rw [if_pos ⟨rfl, ew⟩, if_pos ew, q1 _ (by omega)]
          · rw [if_neg (fun y => ew y.2), if_neg ew, q1 w hw]
        refine ⟨fun w hw => ?_, fun w hw => by rw [k8 1 (by omega) (by omega)]; exact q2 w hw, by rw [k8 2 (by omega) (by omega)]; exact q3, by rw [k8 3 (by omega) (by omega)]; exact q4, by rw [k8 4 (by omega) (by omega)]; exact q5, fun w hw => ?_, fun w hw => ?_⟩
        · rw [e16, mu_at]
          show _ = gCb S q s i w
          unfold gCb
          rw [b12 _ (by omega)]
          by_cases ew : w = s % zNv S
          · rw [if_pos ⟨rfl, ew⟩, ew, pk_us]
          · rw [if_neg (fun y => ew y.2), b12 w hw, pk_un ew]
        · show _ = gCn S q i w
          unfold gCn
          rw [f16, e8]
          by_cases c : zVs S i / zLn S = gE q
          · rw [if_pos (c4.mpr c), if_pos c, mu_at, if_pos ⟨rfl, rfl⟩, bi_set _ (by omega) (by omega), q6 w hw]
            unfold bU
            by_cases ew : w = zVr S i
            · rw [if_pos ew, decide_eq_true ew.symm, Bool.or_true]
            · rw [if_neg ew, decide_eq_false (fun y => ew y.symm), Bool.or_false]
          · rw [if_neg (fun y => c (c4.mp y)), if_neg c, mu_at, if_neg (by omega)]
            exact q6 w hw
        · show _ = gCo S q i w
          unfold gCo
          rw [f16, e8]
          by_cases c : zVs S i / zLn S = gE q
          · rw [if_pos (c4.mpr c), if_pos c, mu_at, if_neg (by omega)]
            exact q7 w hw
          · rw [if_neg (fun y => c (c4.mp y)), if_neg c, mu_at, if_pos ⟨rfl, rfl⟩, bi_set _ (by omega) (by omega), q7 w hw]
            unfold bU
            by_cases ew : w = zVr S i
            · rw [if_pos ew, decide_eq_true ew.symm, Bool.or_true]
            · rw [if_neg ew, decide_eq_false (fun y => ew y.symm), Bool.or_false]
      have sum : ∀ q, xE q I0 457 → gE q = s / zLn S → zSum S (bt (fS_countedFor I16 J9 457 (nI (zVs S i / zLn S)))) (zNv S) = gCs S q i := fun q hq hg => by
        have hx := x16 q hq hg
        unfold gCs
        refine zSum_congr S (zNv S) (fun w hw => ?_)
        rw [cnt I16 J9 q hg hx.2.2.2.2.1 w]
        by_cases c : zVs S i / zLn S = gE q
        · rw [if_pos c, if_pos c]; exact hx.2.2.2.2.2.1 w (by omega)
        · rw [if_neg c, if_neg c]; exact hx.2.2.2.2.2.2 w (by omega)
      refine ⟨S, hX16, ?_⟩
      unfold fF_weightOf
      rw [hX16.tot, r16 (364 + i) (by omega) (by omega), hX.v3 hi, hX.v4 hi]
      refine ⟨fun h6 => hR _ _ _ ⟨rfl, r16, Or.inr rfl, fun q hq hw hg => ⟨fun _ => ⟨rfl, ?_⟩, fun z => absurd (ok q hq hw hg) z⟩⟩, fun h6 I22 J23 hj => ?_⟩
      · rw [sum q hq hg] at h6
        unfold gCnt
        rw [if_neg (Int32.not_le.mpr h6)]
        exact x16 q hq hg
      · obtain ⟨rfl, e22⟩ := hj
        rw [fEp_ck (by omega) (by omega), fEp_ck (by omega) (by omega)] at e22
        refine hR _ _ _ ⟨rfl, fun x hx hx2 => ?_, Or.inr rfl, fun q hq hw hg => ⟨fun _ => ⟨rfl, ?_⟩, fun z => absurd (ok q hq hw hg) z⟩⟩
        · rw [e22, mu_other _ _ _ hx, mu_other _ _ _ hx, mu_other _ _ _ hx]
          by_cases c : nI (zSe S i) = nI (zTe S i) - 1
          · rw [if_pos c, mu_other _ _ _ hx]; exact r16 x hx hx2
          · rw [if_neg c]; exact r16 x hx hx2
        · rw [sum q hq hg] at h6
          unfold gCnt
          rw [if_pos (Int32.not_lt.mp h6)]
          have hx := x16 q hq hg
          have c3 : nI (zSe S i) = nI (zTe S i) - 1 ↔ zSe S i + 1 = zTe S i := eq_pred (by omega) (by omega)
          have k22 : ∀ k, I22 457 k = if k = 6 then 0 else if k = 5 then 0 else if k = 2 then nI (64 * zTe S i + zTb S i) else if k = 3 ∧ zSe S i + 1 = zTe S i then nI (64 * zSe S i + zSb S i) else I16 457 k := fun k => by
            rw [e22, mu_self]
            unfold upd
            by_cases k6 : k = 6
            · rw [if_pos k6, if_pos k6]
            · rw [if_neg k6, if_neg k6, mu_self]
              unfold upd
              by_cases k5 : k = 5
              · rw [if_pos k5, if_pos k5]
              · rw [if_neg k5, if_neg k5, mu_self]
                unfold upd
                by_cases k2 : k = 2
                · rw [if_pos k2, if_pos k2]
                · rw [if_neg k2, if_neg k2]
                  by_cases c : zSe S i + 1 = zTe S i
                  · rw [if_pos (c3.mpr c), mu_at]
                    by_cases k3 : k = 3
                    · rw [if_pos ⟨rfl, k3⟩, if_pos ⟨k3, c⟩]
                    · rw [if_neg (fun y => k3 y.2), if_neg (fun y => k3 y.1)]
                  · rw [if_neg (fun y => c (c3.mp y)), if_neg (fun y => c y.2)]
          have b22 : I22 (457 + 1) = I16 (457 + 1) := by
            rw [e22, mu_other _ _ _ (by omega), mu_other _ _ _ (by omega), mu_other _ _ _ (by omega)]
            by_cases c : nI (zSe S i) = nI (zTe S i) - 1
            · rw [if_pos c, mu_other _ _ _ (by omega)]
            · rw [if_neg c]
          refine ⟨fun w hw => by rw [b22]; exact hx.1 w hw, fun w hw => by rw [k22]; exact hx.2.1 w hw, by rw [k22]; rfl, ?_, by rw [k22]; exact hx.2.2.2.2.1, fun w hw => by rw [k22]; exact b_0 w, fun w hw => by rw [k22]; exact b_0 w⟩
          show I22 457 3 = nI (64 * (if zSe S i + 1 = zTe S i then zSe S i else gFe q) + (if zSe S i + 1 = zTe S i then zSb S i else gFb q))
          by_cases c : zSe S i + 1 = zTe S i
          · rw [k22, if_neg (by decide), if_neg (by decide), if_neg (by decide), if_pos ⟨rfl, c⟩, if_pos c, if_pos c]
          · rw [k22, if_neg (by decide), if_neg (by decide), if_neg (by decide), if_neg (fun y => c y.2), if_neg c, if_neg c]
            exact hx.2.2.2.1
    · rw [cnt I0 J0 q hg hq.2.2.2.2.1] at h5
      apply h5
      apply bz_0.mpr
      have z6 := z.2.2.2.2.2
      by_cases c : zVs S i / zLn S = gE q
      · rw [if_pos c] at z6 ⊢
        rw [hq.2.2.2.2.2.1 _ (by omega)]; exact z6
      · rw [if_neg c] at z6 ⊢
        rw [hq.2.2.2.2.2.2 _ (by omega)]; exact z6
    · apply h4
      rw [vi.2.2.2.2.2.2.2, z.2.2.2.2.1]
  · apply h2
    rw [hX.ln]
    exact (sub_le (by omega) (by omega) (by omega)).mpr z.2.2.2.1
set_option maxHeartbeats 4000000 in
set_option maxRecDepth 100000 in
theorem C_F_takeVote (l : Launch) (D : va_G) (ca : Nat → Nat) (ad : Nat → Nat) (S : mI) (I0 : mI) (J0 : mJ) (j1 : Nat) (a2 : Int32) (a3 : Int32) (hk1 : xk j1 = 8) (hp : pF_takeVote S I0 J0 j1 a2 a3) : Met l yF_takeVote wF_takeVote ({ frames := 2, cells := 0, slots := 0, locals := 46 } : Room) (va_Pc [.ref (ad 0), .ref (ad j1), .int a2, .int a3] (mPre D vwCl (xty ca) 459 ad (xmk ca ad) nL I0 J0)) (mQi D vwCl 459 ad (xmk ca ad) (qF_takeVote S I0 J0 j1 a2 a3)) 0 0 (mA 459 ad) := by
  refine Met.ofW (cc := cF_takeVote) (maxL := 5) (ret := (some .boolean)) (by decide) rfl ?_
  intro p e s m args below meth c s₁ B hml hv
  obtain ⟨rfl, hP, hK, hD0, hN⟩ := hv
  have hx := B.exec
  have hb := B.bytes
  have hr := B.returns
  have htb : ∀ w ∈ wb, w.before _ s = true := fun w h => atoms_spec (ws := wF_takeVote) B.pre w (List.mem_cons_of_mem _ h)
  have hown : s.vm.findClass RF = some m.cls := findClass_of_methodNamed B.named
  have hlk := B.notSynchronized
  have hD := mw_Dm hD0
  have hS : va_S (mA 459 ad) s.heap s.heap [] := va_S.rf
  have hl := lv_entry ([.ref (ad 0), .ref (ad j1), .int a2, .int a3]) (n := 5) (Nat.le_of_ble_eq_true rfl)
  rw [lg_entry_eq]
  generalize (lg_sl ([.ref (ad 0), .ref (ad j1), .int a2, .int a3]) ++ List.replicate (5 - (lg_sl ([.ref (ad 0), .ref (ad j1), .int a2, .int a3])).length) Slot.unset).toArray = ls at hl ⊢
  have hl : lv_has ls 5 [(0, .ref (ad 0)), (1, .ref (ad j1)), (2, .int a2), (3, .int a3)] := hl
  have h := P_F_takeVote S I0 J0 j1 a2 a3 hk1 hp  (qF_takeVote S I0 J0 j1 a2 a3)  (fun _ _ _ h => h)
  unfold wp_F_takeVote at h
  refine lv_aload_n hx hb dF_takeVote_0 rfl (lv_at hl 1 rfl) ?_
  refine va_get (D := D) (ci := 4) (v := .int (I0 j1 1)) (C := RV) (T := TV) (N := 5) hx hb htb inV hown hK hP j1 (mw_at (xk_lt hk1 (by decide)) (xm_V hk1 _ _)) rfl 1 (by decide) (htb _ k1_114) (fun _ h9 => h9) rfl dF_takeVote_1 ?_
  refine lv_iload_n hx hb dF_takeVote_4 rfl (lv_at hl 3 rfl) ?_
  refine lv_icmp_ge (tgt := 21) hx hb dF_takeVote_5 (by decide) (fun hc => ?_) (fun hc => ?_)
  · have h := h.1 hc
    refine lv_iconst (v := 0) hx hb dF_takeVote_21 (by decide) ?_
    exact me_z hx hb hr hlk hP hS rfl h dF_takeVote_22
  · have h := h.2 hc
    refine lv_aload_n hx hb dF_takeVote_8 rfl (lv_at hl 1 rfl) ?_
    refine va_get (D := D) (ci := 4) (v := .int (I0 j1 1)) (C := RV) (T := TV) (N := 5) hx hb htb inV hown hK hP j1 (mw_at (xk_lt hk1 (by decide)) (xm_V hk1 _ _)) rfl 1 (by decide) (htb _ k1_114) (fun _ h9 => h9) rfl dF_takeVote_9 ?_
    refine lv_iload_n hx hb dF_takeVote_12 rfl (lv_at hl 3 rfl) ?_
    refine lv_aload_n hx hb dF_takeVote_13 rfl (lv_at hl 0 rfl) ?_
    refine va_get (D := D) (ci := 5) (v := .int (I0 0 1)) (C := RF) (T := TF) (N := 11) hx hb htb inF hown hK hP 0 (mw_at (xk_lt (show xk 0 = 0 from rfl) (by decide)) (xm_F (show xk 0 = 0 from rfl) _ _)) rfl 1 (by decide) (htb _ k1_163) (fun _ h9 => h9) rfl dF_takeVote_14 ?_
    refine lv_isub hx hb dF_takeVote_17 ?_
    refine lv_icmp_ge (tgt := 23) hx hb dF_takeVote_18 (by decide) (fun hc => ?_) (fun hc => ?_)
    · have h := h.1 hc
      refine lv_aload_n hx hb dF_takeVote_23 rfl (lv_at hl 1 rfl) ?_
      refine va_get (D := D) (ci := 4) (v := .int (I0 j1 1)) (C := RV) (T := TV) (N := 5) hx hb htb inV hown hK hP j1 (mw_at (xk_lt hk1 (by decide)) (xm_V hk1 _ _)) rfl 1 (by decide) (htb _ k1_114) (fun _ h9 => h9) rfl dF_takeVote_24 ?_
      refine lv_aload_n hx hb dF_takeVote_27 rfl (lv_at hl 0 rfl) ?_
      refine va_get (D := D) (ci := 5) (v := .int (I0 0 1)) (C := RF) (T := TF) (N := 11) hx hb htb inF hown hK hP 0 (mw_at (xk_lt (show xk 0 = 0 from rfl) (by decide)) (xm_F (show xk 0 = 0 from rfl) _ _)) rfl 1 (by decide) (htb _ k1_163) (fun _ h9 => h9) rfl dF_takeVote_28 ?_
      obtain ⟨hz1, h⟩ := h
      refine lv_idiv hx hb dF_takeVote_31 hz1 ?_
      refine lv_istore (lv' := [(4, .int ((I0 j1 1) / (I0 0 1))), (0, .ref (ad 0)), (1, .ref (ad j1)), (2, .int a2), (3, .int a3)]) hx hb dF_takeVote_32 hl (by decide) rfl (fun ls hl => ?_)
      refine lv_aload_n hx hb dF_takeVote_34 rfl (lv_at hl 2 rfl) ?_
      refine va_get (D := D) (ci := 4) (v := .int (I0 j1 3)) (C := RV) (T := TV) (N := 5) hx hb htb inV hown hK hP j1 (mw_at (xk_lt hk1 (by decide)) (xm_V hk1 _ _)) rfl 3 (by decide) (htb _ k1_117) (fun _ h9 => h9) rfl dF_takeVote_35 ?_
      refine lv_aload_n hx hb dF_takeVote_38 rfl (lv_at hl 1 rfl) ?_
      refine va_get (D := D) (ci := 5) (v := .ref (ad 457)) (C := RF) (T := TF) (N := 11) hx hb htb inF hown hK hP 0 (mw_at (xk_lt (show xk 0 = 0 from rfl) (by decide)) (xm_F (show xk 0 = 0 from rfl) _ _)) rfl 10 (by decide) (htb _ k1_172) (fun _ h9 => h9) rfl dF_takeVote_39 ?_
      refine va_get (D := D) (ci := 3) (v := .int (I0 457 2)) (C := RS) (T := TS) (N := 7) hx hb htb inS hown hK hP 457 (mw_at (xk_lt (show xk 457 = 6 from rfl) (by decide)) (xm_S (show xk 457 = 6 from rfl) _ _)) rfl 2 (by decide) (htb _ k1_62) (fun _ h9 => h9) rfl dF_takeVote_42 ?_
      refine lv_icmp_ne (tgt := 62) hx hb dF_takeVote_45 (by decide) (fun hc => ?_) (fun hc => ?_)
      · have h := h.1 hc
        refine lv_iconst (v := 0) hx hb dF_takeVote_62 (by decide) ?_
        exact me_z hx hb hr hlk hP hS rfl h dF_takeVote_63
      · have h := h.2 hc
        refine lv_aload_n hx hb dF_takeVote_48 rfl (lv_at hl 2 rfl) ?_
        refine va_get (D := D) (ci := 4) (v := .int (I0 j1 4)) (C := RV) (T := TV) (N := 5) hx hb htb inV hown hK hP j1 (mw_at (xk_lt hk1 (by decide)) (xm_V hk1 _ _)) rfl 4 (by decide) (htb _ k1_119) (fun _ h9 => h9) rfl dF_takeVote_49 ?_
        refine lv_aload_n hx hb dF_takeVote_52 rfl (lv_at hl 1 rfl) ?_
        refine lv_iload_n hx hb dF_takeVote_53 rfl (lv_at hl 3 rfl) ?_
        refine lv_iload hx hb dF_takeVote_54 (lv_at hl 0 rfl) ?_
        obtain ⟨S2, h⟩ := h
        obtain ⟨hp3, h⟩ := h
        refine mc_r (va_runV (As := [.int a2, .int ((I0 j1 1) / (I0 0 1))]) (rest := [.int (I0 j1 4)]) ⟨hx, hb, hml, hown, htb⟩ (C_F_checkpointOn l D ca ad S2 I0 J0 a2 ((I0 j1 1) / (I0 0 1)) hp3) (cwV 2 htb (gd_v k1_208 k1_210 ks2 k1_1 k1_211) rfl rfl rfl (by decide +kernel) ⟨Nat.le_of_ble_eq_true rfl, Nat.le_of_ble_eq_true rfl⟩) (mPre_V hK hP hD hN rfl (mw_at (xk_lt (show xk 0 = 0 from rfl) (by decide)) (xm_F (show xk 0 = 0 from rfl) _ _))) rfl rfl hl.1 rfl (lv_room (Nat.le_of_ble_eq_true rfl)) dF_takeVote_56 ⟨Nat.le_of_ble_eq_true rfl, Nat.le_of_ble_eq_true rfl⟩) hS (fun H locs hP hS => ?_)
        refine lv_icmp_eq (tgt := 64) hx hb dF_takeVote_59 (by decide) (fun hc => ?_) (fun hc => ?_)
        · have h := h.1 hc
          refine lv_aload_n hx hb dF_takeVote_64 rfl (lv_at hl 1 rfl) ?_
          refine va_get (D := D) (ci := 5) (v := .ref (ad 457)) (C := RF) (T := TF) (N := 11) hx hb htb inF hown hK hP 0 (mw_at (xk_lt (show xk 0 = 0 from rfl) (by decide)) (xm_F (show xk 0 = 0 from rfl) _ _)) rfl 10 (by decide) (htb _ k1_172) (fun _ h9 => h9) rfl dF_takeVote_65 ?_
          refine lv_iload hx hb dF_takeVote_68 (lv_at hl 0 rfl) ?_
          refine mc_r (va_runV (As := [.int ((I0 j1 1) / (I0 0 1))]) (rest := []) ⟨hx, hb, hml, hown, htb⟩ (C_S_countedFor l D ca ad I0 J0 457 ((I0 j1 1) / (I0 0 1)) (show xk 457 = 6 from rfl)) (cwV 1 htb (gd_v k2_42 k2_43 k2_44 k1_5 k2_45) rfl rfl rfl (by decide +kernel) ⟨Nat.le_of_ble_eq_true rfl, Nat.le_of_ble_eq_true rfl⟩) (mPre_V hK hP hD hN rfl (mw_at (xk_lt (show xk 457 = 6 from rfl) (by decide)) (xm_S (show xk 457 = 6 from rfl) _ _))) rfl rfl hl.1 rfl (lv_room (Nat.le_of_ble_eq_true rfl)) dF_takeVote_70 ⟨Nat.le_of_ble_eq_true rfl, Nat.le_of_ble_eq_true rfl⟩) hS (fun H locs hP hS => ?_)
          refine lv_aload_n hx hb dF_takeVote_73 rfl (lv_at hl 2 rfl) ?_
          refine va_get (D := D) (ci := 4) (v := .int (I0 j1 0)) (C := RV) (T := TV) (N := 5) hx hb htb inV hown hK hP j1 (mw_at (xk_lt hk1 (by decide)) (xm_V hk1 _ _)) rfl 0 (by decide) (htb _ k1_113) (fun _ h9 => h9) rfl dF_takeVote_74 ?_
          refine mc_r (va_runS (As := [.int (fS_countedFor I0 J0 457 ((I0 j1 1) / (I0 0 1))), .int (I0 j1 0)]) (rest := []) ⟨hx, hb, hml, hown, htb⟩ (C_F_isIn l D ca ad I0 J0 (fS_countedFor I0 J0 457 ((I0 j1 1) / (I0 0 1))) (I0 j1 0)) (va_cwS 2 htb (gd_s k2_19 k2_20 k1_1 k2_21) rfl rfl rfl (by decide +kernel) ⟨Nat.le_of_ble_eq_true rfl, Nat.le_of_ble_eq_true rfl⟩) (mPre_S hK hP hD hN) rfl rfl hl.1 rfl (lv_room (Nat.le_of_ble_eq_true rfl)) dF_takeVote_77 ⟨Nat.le_of_ble_eq_true rfl, Nat.le_of_ble_eq_true rfl⟩) hS (fun H locs hP hS => ?_)
          refine lv_if_eq (tgt := 85) hx hb dF_takeVote_80 (by decide) (fun hc => ?_) (fun hc => ?_)
          · have h := h.1 hc
            refine lv_aload_n hx hb dF_takeVote_85 rfl (lv_at hl 1 rfl) ?_
            refine va_get (D := D) (ci := 5) (v := .ref (ad 457)) (C := RF) (T := TF) (N := 11) hx hb htb inF hown hK hP 0 (mw_at (xk_lt (show xk 0 = 0 from rfl) (by decide)) (xm_F (show xk 0 = 0 from rfl) _ _)) rfl 10 (by decide) (htb _ k1_172) (fun _ h9 => h9) rfl dF_takeVote_86 ?_
            refine lv_iload hx hb dF_takeVote_89 (lv_at hl 0 rfl) ?_
            refine lv_aload_n hx hb dF_takeVote_91 rfl (lv_at hl 2 rfl) ?_
            refine va_get (D := D) (ci := 4) (v := .int (I0 j1 0)) (C := RV) (T := TV) (N := 5) hx hb htb inV hown hK hP j1 (mw_at (xk_lt hk1 (by decide)) (xm_V hk1 _ _)) rfl 0 (by decide) (htb _ k1_113) (fun _ h9 => h9) rfl dF_takeVote_92 ?_
            refine mc_v (va_runV (As := [.int ((I0 j1 1) / (I0 0 1)), .int (I0 j1 0)]) (rest := []) ⟨hx, hb, hml, hown, htb⟩ (C_S_addCounted l D ca ad I0 J0 457 ((I0 j1 1) / (I0 0 1)) (I0 j1 0) (show xk 457 = 6 from rfl)) (cwV 2 htb (gd_v k2_46 k2_47 k2_48 k1_5 k2_49) rfl rfl rfl (by decide +kernel) ⟨Nat.le_of_ble_eq_true rfl, Nat.le_of_ble_eq_true rfl⟩) (mPre_V hK hP hD hN rfl (mw_at (xk_lt (show xk 457 = 6 from rfl) (by decide)) (xm_S (show xk 457 = 6 from rfl) _ _))) rfl rfl hl.1 rfl (lv_room (Nat.le_of_ble_eq_true rfl)) dF_takeVote_95 ⟨Nat.le_of_ble_eq_true rfl, Nat.le_of_ble_eq_true rfl⟩) hS (fun I8 J9 H locs hpost hP hS => ?_)
            have h := h I8 J9 hpost
            refine lv_aload_n hx hb dF_takeVote_98 rfl (lv_at hl 1 rfl) ?_
            refine va_get (D := D) (ci := 5) (v := .ref (ad 457)) (C := RF) (T := TF) (N := 11) hx hb htb inF hown hK hP 0 (mw_at (xk_lt (show xk 0 = 0 from rfl) (by decide)) (xm_F (show xk 0 = 0 from rfl) _ _)) rfl 10 (by decide) (htb _ k1_172) (fun _ h9 => h9) rfl dF_takeVote_99 ?_
            refine va_get (D := D) (ci := 3) (v := .ref (ad (457 + 1))) (C := RS) (T := TS) (N := 7) hx hb htb inS hown hK hP 457 (mw_at (xk_lt (show xk 457 = 6 from rfl) (by decide)) (xm_S (show xk 457 = 6 from rfl) _ _)) rfl 0 (by decide) (htb _ k1_58) (fun _ h9 => h9) rfl dF_takeVote_102 ?_
            refine lv_aload_n hx hb dF_takeVote_105 rfl (lv_at hl 2 rfl) ?_
            refine va_get (D := D) (ci := 4) (v := .int (I8 j1 0)) (C := RV) (T := TV) (N := 5) hx hb htb inV hown hK hP j1 (mw_at (xk_lt hk1 (by decide)) (xm_V hk1 _ _)) rfl 0 (by decide) (htb _ k1_113) (fun _ h9 => h9) rfl dF_takeVote_106 ?_
            refine lv_dup2_11 hx hb dF_takeVote_109 rfl rfl ?_
            obtain ⟨hn10, h⟩ := h
            refine mr_iald hx hb hK hP (457 + 1) 0 (xk_lt (xk_SB (show xk 457 = 6 from rfl)) (by decide)) (xm_7 (xk_SB (show xk 457 = 6 from rfl)) _ _) rfl hn10 dF_takeVote_110 ?_
            refine lv_iconst (v := 2) hx hb dF_takeVote_111 (by decide) ?_
            refine lv_iadd hx hb dF_takeVote_112 ?_
            obtain ⟨hn11, h⟩ := h
            refine mr_iast hx hb hK hP hD hS (457 + 1) 0 (xk_lt (xk_SB (show xk 457 = 6 from rfl)) (by decide)) (fun f => xm_7 (xk_SB (show xk 457 = 6 from rfl)) f _) rfl hn11 dF_takeVote_113 (fun H locs hP hS => ?_)
            generalize heI12 : mu I8 (457 + 1) (I8 j1 0).toNatClampNeg ((I8 (457 + 1) (I8 j1 0).toNatClampNeg) + 2) = I12 at hP
            have h := h I12 heI12.symm
            refine lv_aload_n hx hb dF_takeVote_114 rfl (lv_at hl 1 rfl) ?_
            refine va_get (D := D) (ci := 5) (v := .ref (ad 457)) (C := RF) (T := TF) (N := 11) hx hb htb inF hown hK hP 0 (mw_at (xk_lt (show xk 0 = 0 from rfl) (by decide)) (xm_F (show xk 0 = 0 from rfl) _ _)) rfl 10 (by decide) (htb _ k1_172) (fun _ h9 => h9) rfl dF_takeVote_115 ?_
            refine va_get (D := D) (ci := 3) (v := .ref (ad (457 + 1))) (C := RS) (T := TS) (N := 7) hx hb htb inS hown hK hP 457 (mw_at (xk_lt (show xk 457 = 6 from rfl) (by decide)) (xm_S (show xk 457 = 6 from rfl) _ _)) rfl 0 (by decide) (htb _ k1_58) (fun _ h9 => h9) rfl dF_takeVote_118 ?_
            refine lv_iload_n hx hb dF_takeVote_121 rfl (lv_at hl 4 rfl) ?_
            refine lv_aload_n hx hb dF_takeVote_122 rfl (lv_at hl 1 rfl) ?_
            refine va_get (D := D) (ci := 5) (v := .int (I12 0 0)) (C := RF) (T := TF) (N := 11) hx hb htb inF hown hK hP 0 (mw_at (xk_lt (show xk 0 = 0 from rfl) (by decide)) (xm_F (show xk 0 = 0 from rfl) _ _)) rfl 0 (by decide) (htb _ k1_162) (fun _ h9 => h9) rfl dF_takeVote_123 ?_
            obtain ⟨hz13, h⟩ := h
            refine lv_irem hx hb dF_takeVote_126 hz13 ?_
            refine lv_dup2_11 hx hb dF_takeVote_127 rfl rfl ?_
            obtain ⟨hn14, h⟩ := h
            refine mr_iald hx hb hK hP (457 + 1) 0 (xk_lt (xk_SB (show xk 457 = 6 from rfl)) (by decide)) (xm_7 (xk_SB (show xk 457 = 6 from rfl)) _ _) rfl hn14 dF_takeVote_128 ?_
            refine lv_iconst (v := 1) hx hb dF_takeVote_129 (by decide) ?_
            refine lv_iadd hx hb dF_takeVote_130 ?_
            obtain ⟨hn15, h⟩ := h
            refine mr_iast hx hb hK hP hD hS (457 + 1) 0 (xk_lt (xk_SB (show xk 457 = 6 from rfl)) (by decide)) (fun f => xm_7 (xk_SB (show xk 457 = 6 from rfl)) f _) rfl hn15 dF_takeVote_131 (fun H locs hP hS => ?_)
            generalize heI16 : mu I12 (457 + 1) (a3 - a3 / (I12 0 0) * (I12 0 0)).toNatClampNeg ((I12 (457 + 1) (a3 - a3 / (I12 0 0) * (I12 0 0)).toNatClampNeg) + 1) = I16 at hP
            have h := h I16 heI16.symm
            refine lv_iconst (v := 3) hx hb dF_takeVote_132 (by decide) ?_
            refine lv_aload_n hx hb dF_takeVote_133 rfl (lv_at hl 1 rfl) ?_
            refine lv_aload_n hx hb dF_takeVote_134 rfl (lv_at hl 1 rfl) ?_
            refine va_get (D := D) (ci := 5) (v := .ref (ad 457)) (C := RF) (T := TF) (N := 11) hx hb htb inF hown hK hP 0 (mw_at (xk_lt (show xk 0 = 0 from rfl) (by decide)) (xm_F (show xk 0 = 0 from rfl) _ _)) rfl 10 (by decide) (htb _ k1_172) (fun _ h9 => h9) rfl dF_takeVote_135 ?_
            refine lv_iload hx hb dF_takeVote_138 (lv_at hl 0 rfl) ?_
            refine mc_r (va_runV (As := [.int ((I0 j1 1) / (I0 0 1))]) (rest := [.ref (ad 0), .int 3]) ⟨hx, hb, hml, hown, htb⟩ (C_S_countedFor l D ca ad I16 J9 457 ((I0 j1 1) / (I0 0 1)) (show xk 457 = 6 from rfl)) (cwV 1 htb (gd_v k2_42 k2_43 k2_44 k1_5 k2_45) rfl rfl rfl (by decide +kernel) ⟨Nat.le_of_ble_eq_true rfl, Nat.le_of_ble_eq_true rfl⟩) (mPre_V hK hP hD hN rfl (mw_at (xk_lt (show xk 457 = 6 from rfl) (by decide)) (xm_S (show xk 457 = 6 from rfl) _ _))) rfl rfl hl.1 rfl (lv_room (Nat.le_of_ble_eq_true rfl)) dF_takeVote_140 ⟨Nat.le_of_ble_eq_true rfl, Nat.le_of_ble_eq_true rfl⟩) hS (fun H locs hP hS => ?_)
            obtain ⟨S18, h⟩ := h
            obtain ⟨hp19, h⟩ := h
            refine mc_r (va_runV (As := [.int (fS_countedFor I16 J9 457 ((I0 j1 1) / (I0 0 1)))]) (rest := [.int 3]) ⟨hx, hb, hml, hown, htb⟩ (C_F_weightOf l D ca ad S18 I16 J9 (fS_countedFor I16 J9 457 ((I0 j1 1) / (I0 0 1))) hp19) (cwV 1 htb (gd_v k2_50 k2_52 ks9 k1_1 k2_53) rfl rfl rfl (by decide +kernel) ⟨Nat.le_of_ble_eq_true rfl, Nat.le_of_ble_eq_true rfl⟩) (mPre_V hK hP hD hN rfl (mw_at (xk_lt (show xk 0 = 0 from rfl) (by decide)) (xm_F (show xk 0 = 0 from rfl) _ _))) rfl rfl hl.1 rfl (lv_room (Nat.le_of_ble_eq_true rfl)) dF_takeVote_143 ⟨Nat.le_of_ble_eq_true rfl, Nat.le_of_ble_eq_true rfl⟩) hS (fun H locs hP hS => ?_)
            refine lv_imul hx hb dF_takeVote_146 ?_
            refine lv_iconst (v := 2) hx hb dF_takeVote_147 (by decide) ?_
            refine lv_aload_n hx hb dF_takeVote_148 rfl (lv_at hl 1 rfl) ?_
            refine va_get (D := D) (ci := 5) (v := .int (I16 0 3)) (C := RF) (T := TF) (N := 11) hx hb htb inF hown hK hP 0 (mw_at (xk_lt (show xk 0 = 0 from rfl) (by decide)) (xm_F (show xk 0 = 0 from rfl) _ _)) rfl 3 (by decide) (htb _ k1_165) (fun _ h9 => h9) rfl dF_takeVote_149 ?_
            refine lv_imul hx hb dF_takeVote_152 ?_
            refine lv_icmp_lt (tgt := 171) hx hb dF_takeVote_153 (by decide) (fun hc => ?_) (fun hc => ?_)
            · have h := h.1 hc
              refine lv_iconst (v := 1) hx hb dF_takeVote_171 (by decide) ?_
              exact me_z hx hb hr hlk hP hS rfl h dF_takeVote_172
            · have h := h.2 hc
              refine lv_aload_n hx hb dF_takeVote_156 rfl (lv_at hl 1 rfl) ?_
              refine va_get (D := D) (ci := 5) (v := .ref (ad 457)) (C := RF) (T := TF) (N := 11) hx hb htb inF hown hK hP 0 (mw_at (xk_lt (show xk 0 = 0 from rfl) (by decide)) (xm_F (show xk 0 = 0 from rfl) _ _)) rfl 10 (by decide) (htb _ k1_172) (fun _ h9 => h9) rfl dF_takeVote_157 ?_
              refine lv_aload_n hx hb dF_takeVote_160 rfl (lv_at hl 2 rfl) ?_
              refine va_get (D := D) (ci := 4) (v := .int (I16 j1 3)) (C := RV) (T := TV) (N := 5) hx hb htb inV hown hK hP j1 (mw_at (xk_lt hk1 (by decide)) (xm_V hk1 _ _)) rfl 3 (by decide) (htb _ k1_117) (fun _ h9 => h9) rfl dF_takeVote_161 ?_
              refine lv_aload_n hx hb dF_takeVote_164 rfl (lv_at hl 2 rfl) ?_
              refine va_get (D := D) (ci := 4) (v := .int (I16 j1 4)) (C := RV) (T := TV) (N := 5) hx hb htb inV hown hK hP j1 (mw_at (xk_lt hk1 (by decide)) (xm_V hk1 _ _)) rfl 4 (by decide) (htb _ k1_119) (fun _ h9 => h9) rfl dF_takeVote_165 ?_
              refine mc_v (va_runV (As := [.int (I16 j1 3), .int (I16 j1 4)]) (rest := []) ⟨hx, hb, hml, hown, htb⟩ (C_S_justify l D ca ad I16 J9 457 (I16 j1 3) (I16 j1 4) (show xk 457 = 6 from rfl)) (cwV 2 htb (gd_v k2_54 k2_55 k2_56 k1_5 k2_57) rfl rfl rfl (by decide +kernel) ⟨Nat.le_of_ble_eq_true rfl, Nat.le_of_ble_eq_true rfl⟩) (mPre_V hK hP hD hN rfl (mw_at (xk_lt (show xk 457 = 6 from rfl) (by decide)) (xm_S (show xk 457 = 6 from rfl) _ _))) rfl rfl hl.1 rfl (lv_room (Nat.le_of_ble_eq_true rfl)) dF_takeVote_168 ⟨Nat.le_of_ble_eq_true rfl, Nat.le_of_ble_eq_true rfl⟩) hS (fun I22 J23 H locs hpost hP hS => ?_)
              have h := h I22 J23 hpost
              refine lv_iconst (v := 1) hx hb dF_takeVote_171 (by decide) ?_
              exact me_z hx hb hr hlk hP hS rfl h dF_takeVote_172
          · have h := h.2 hc
            refine lv_iconst (v := 0) hx hb dF_takeVote_83 (by decide) ?_
            exact me_z hx hb hr hlk hP hS rfl h dF_takeVote_84
        · have h := h.2 hc
          refine lv_iconst (v := 0) hx hb dF_takeVote_62 (by decide) ?_
          exact me_z hx hb hr hlk hP hS rfl h dF_takeVote_63
    · have h := h.2 hc
      refine lv_iconst (v := 0) hx hb dF_takeVote_21 (by decide) ?_
      exact me_z hx hb hr hlk hP hS rfl h dF_takeVote_22
def wp_F_takeItem (R : Int32 → mI → mJ → Prop) (I0 : mI) (J0 : mJ) (a1 : Int32) (a2 : Int32) (a3 : Int32) : Prop :=
  (vp_in a1 4 ∧ (vp_in a1 4 ∧ ((¬ ((I0 (454 + 2) a1.toNatClampNeg) = (-1)) → (vp_in (I0 (454 + 1) a1.toNatClampNeg) 80 ∧ (¬ (I0 0 0) = 0 ∧ (pF_takeEvidence I0 J0 (I0 (364 + (I0 (454 + 1) a1.toNatClampNeg).toNatClampNeg) 0) (a3 - a3 / (I0 0 0) * (I0 0 0)) ∧ (∀ (r6 : Int32) (I7 : mI) (J8 : mJ), qF_takeEvidence I0 J0 (I0 (364 + (I0 (454 + 1) a1.toNatClampNeg).toNatClampNeg) 0) (a3 - a3 / (I0 0 0) * (I0 0 0)) r6 I7 J8 → (narrow .boolean (.int r6) = .int r6 ∧ R r6 I7 J8)))))) ∧ ((I0 (454 + 2) a1.toNatClampNeg) = (-1) → (vp_in (I0 (454 + 1) a1.toNatClampNeg) 80 ∧ (∃ (S11 : mI), (pF_takeVote S11 I0 J0 (364 + (I0 (454 + 1) a1.toNatClampNeg).toNatClampNeg) a2 a3 ∧ (∀ (r13 : Int32) (I14 : mI) (J15 : mJ), qF_takeVote S11 I0 J0 (364 + (I0 (454 + 1) a1.toNatClampNeg).toNatClampNeg) a2 a3 r13 I14 J15 → (narrow .boolean (.int r13) = .int r13 ∧ R r13 I14 J15)))))))))
theorem P_F_takeItem (S : mI) (I0 : mI) (J0 : mJ) (a1 : Int32) (a2 : Int32) (a3 : Int32)  (hp : pF_takeItem S I0 J0 a1 a2 a3)  (R : Int32 → mI → mJ → Prop)  (hR : ∀ (r : Int32) (I' : mI) (J' : mJ), qF_takeItem S I0 J0 a1 a2 a3 r I' J' → R r I' J') : wp_F_takeItem R I0 J0 a1 a2 a3 := by
  obtain ⟨hX, ⟨k, hk, rfl⟩, ⟨p, hp0, rfl⟩, ⟨s, hs1, hs2, rfl⟩, ⟨q0, hq0, hge⟩⟩ := hp
  have hb := hX.1.b
  unfold qF_takeItem at hR
  rw [cN_nI (n := k) (by omega), cN_nI (n := p) (by omega), cN_nI (n := s) (by omega)] at hR
  have hI := hX.1.2.2.1 k hk
  have hE := hX.2.2.2.2.1.2 k hk
  have ek : (nI k).toNatClampNeg = k := nI_clamp (by omega)
  have k4 : vp_in (nI k) 4 := vp_in_nI (by omega) (by omega)
  have hx : zNi S k = cN (S 6 k) := rfl
  unfold wp_F_takeItem
  rw [ek]
  refine ⟨k4, k4, fun h => ?_, fun h => ?_⟩
  · rcases hE with ⟨w1, w2, w3⟩ | ⟨w1, w2, w3⟩
    · exact absurd w3 h
    · rcases hI.2 with hv | ⟨o, t, ho, ht, eo⟩
      · omega
      · have eo1 : cN (S 6 k) % 100 = o := by omega
        have vo := hX.1.v ho
        rw [w2, eo1, show (nI o).toNatClampNeg = o from nI_clamp (by omega), hX.v0 ho, hX.nv, pk_rem (by omega) (by omega) (by omega)]
        have hmod := Nat.mod_lt s (show 0 < zNv S by omega)
        refine ⟨vp_in_nI (by omega) (by omega), nI_ne0 (by omega) (by omega), ⟨zVr S o, s % zNv S, by omega, by omega, rfl, rfl⟩, fun r7 I8 J9 hq => ?_⟩
        obtain ⟨rfl, f1, f2, f3⟩ := hq
        rw [cN_nI (n := zVr S o) (by omega), cN_nI (n := s % zNv S) (by omega)] at f3
        refine ⟨by rcases f2 with rfl | rfl <;> rfl, hR _ _ _ ⟨rfl, f1, f2, fun q hq hw hg => ⟨fun z => ?_, fun z => ?_⟩⟩⟩
        · have z0 : gP q (zVr S o) = false := by
            unfold gFit at z
            rw [hx, if_neg (by omega), eo1] at z
            exact z
          obtain ⟨g1, g2⟩ := (f3 q hq).1 z0
          refine ⟨g1, ?_⟩
          unfold gItem
          rw [if_pos z, hx, if_neg (by omega), eo1]
          exact g2
        · apply (f3 q hq).2
          unfold gFit at z
          rw [hx, if_neg (by omega), eo1] at z
          cases hz : gP q (zVr S o) with
          | true => rfl
          | false => exact absurd hz z
  · rcases hE with ⟨w1, w2, w3⟩ | ⟨w1, w2, w3⟩
    · rcases hI.2 with hv | ⟨o, t, ho, ht, eo⟩
      · rw [w2, hI.1, show (nI (cN (S 6 k))).toNatClampNeg = cN (S 6 k) from nI_clamp (by omega)]
        refine ⟨vp_in_nI (by omega) (by omega), S, ⟨hX, ⟨_, hv, rfl⟩, ⟨p, hp0, rfl⟩, ⟨s, hs1, hs2, rfl⟩, q0, hq0, hge⟩, fun r7 I8 J9 hq => ?_⟩
        obtain ⟨rfl, f1, f2, f3⟩ := hq
        rw [cN_nI (n := p) (by omega), cN_nI (n := s) (by omega), show 364 + cN (S 6 k) - 364 = cN (S 6 k) from by omega] at f3
        refine ⟨by rcases f2 with rfl | rfl <;> rfl, hR _ _ _ ⟨rfl, f1, f2, fun q hq hw hg => ⟨fun z => ?_, fun z => ?_⟩⟩⟩
        · have z0 : gOk S q p s (cN (S 6 k)) := by
            unfold gFit at z
            rw [hx, if_pos w1] at z
            exact z
          obtain ⟨g1, g2⟩ := (f3 q hq hw hg).1 z0
          refine ⟨g1, ?_⟩
          unfold gItem
          rw [if_pos z, hx, if_pos w1]
          exact g2
        · apply (f3 q hq hw hg).2
          unfold gFit at z
          rw [hx, if_pos w1] at z
          exact z
      · omega
    · exact absurd (w3.symm.trans h) (oI_ne (k := cN (S 6 k) / 100 - 1) (by rcases hI.2 with hv | ⟨o, t, ho, ht, eo⟩ <;> omega))
set_option maxHeartbeats 4000000 in
set_option maxRecDepth 100000 in
theorem C_F_takeItem (l : Launch) (D : va_G) (ca : Nat → Nat) (ad : Nat → Nat) (S : mI) (I0 : mI) (J0 : mJ) (a1 : Int32) (a2 : Int32) (a3 : Int32)  (hp : pF_takeItem S I0 J0 a1 a2 a3) : Met l yF_takeItem wF_takeItem ({ frames := 3, cells := 0, slots := 0, locals := 70 } : Room) (va_Pc [.ref (ad 0), .int a1, .int a2, .int a3] (mPre D vwCl (xty ca) 459 ad (xmk ca ad) nL I0 J0)) (mQi D vwCl 459 ad (xmk ca ad) (qF_takeItem S I0 J0 a1 a2 a3)) 0 0 (mA 459 ad) := by
  refine Met.ofW (cc := cF_takeItem) (maxL := 5) (ret := (some .boolean)) (by decide) rfl ?_
  intro p e s m args below meth c s₁ B hml hv
  obtain ⟨rfl, hP, hK, hD0, hN⟩ := hv
  have hx := B.exec
  have hb := B.bytes
  have hr := B.returns
  have htb : ∀ w ∈ wb, w.before _ s = true := fun w h => atoms_spec (ws := wF_takeItem) B.pre w (List.mem_cons_of_mem _ h)
  have hown : s.vm.findClass RF = some m.cls := findClass_of_methodNamed B.named
  have hlk := B.notSynchronized
  have hD := mw_Dm hD0
  have hS : va_S (mA 459 ad) s.heap s.heap [] := va_S.rf
  have hl := lv_entry ([.ref (ad 0), .int a1, .int a2, .int a3]) (n := 5) (Nat.le_of_ble_eq_true rfl)
  rw [lg_entry_eq]
  generalize (lg_sl ([.ref (ad 0), .int a1, .int a2, .int a3]) ++ List.replicate (5 - (lg_sl ([.ref (ad 0), .int a1, .int a2, .int a3])).length) Slot.unset).toArray = ls at hl ⊢
  have hl : lv_has ls 5 [(0, .ref (ad 0)), (1, .int a1), (2, .int a2), (3, .int a3)] := hl
  have h := P_F_takeItem S I0 J0 a1 a2 a3  hp  (qF_takeItem S I0 J0 a1 a2 a3)  (fun _ _ _ h => h)
  unfold wp_F_takeItem at h
  refine lv_aload_n hx hb dF_takeItem_0 rfl (lv_at hl 0 rfl) ?_
  refine va_get (D := D) (ci := 5) (v := .ref (ad 454)) (C := RF) (T := TF) (N := 11) hx hb htb inF hown hK hP 0 (mw_at (xk_lt (show xk 0 = 0 from rfl) (by decide)) (xm_F (show xk 0 = 0 from rfl) _ _)) rfl 9 (by decide) (htb _ k1_171) (fun _ h9 => h9) rfl dF_takeItem_1 ?_
  refine va_get (D := D) (ci := 1) (v := .ref (ad (454 + 1))) (C := RI) (T := TI) (N := 3) hx hb htb inI hown hK hP 454 (mw_at (xk_lt (show xk 454 = 4 from rfl) (by decide)) (xm_I (show xk 454 = 4 from rfl) _ _)) rfl 0 (by decide) (htb _ k1_38) (fun _ h9 => h9) rfl dF_takeItem_4 ?_
  refine lv_iload_n hx hb dF_takeItem_7 rfl (lv_at hl 1 rfl) ?_
  obtain ⟨hn1, h⟩ := h
  refine mr_iald hx hb hK hP (454 + 1) 0 (xk_lt (xk_I1 (show xk 454 = 4 from rfl)) (by decide)) (xm_4 (xk_I1 (show xk 454 = 4 from rfl)) _ _) rfl hn1 dF_takeItem_8 ?_
  refine lv_istore (lv' := [(4, .int (I0 (454 + 1) a1.toNatClampNeg)), (0, .ref (ad 0)), (1, .int a1), (2, .int a2), (3, .int a3)]) hx hb dF_takeItem_9 hl (by decide) rfl (fun ls hl => ?_)
  refine lv_aload_n hx hb dF_takeItem_11 rfl (lv_at hl 1 rfl) ?_
  refine va_get (D := D) (ci := 5) (v := .ref (ad 454)) (C := RF) (T := TF) (N := 11) hx hb htb inF hown hK hP 0 (mw_at (xk_lt (show xk 0 = 0 from rfl) (by decide)) (xm_F (show xk 0 = 0 from rfl) _ _)) rfl 9 (by decide) (htb _ k1_171) (fun _ h9 => h9) rfl dF_takeItem_12 ?_
  refine va_get (D := D) (ci := 1) (v := .ref (ad (454 + 2))) (C := RI) (T := TI) (N := 3) hx hb htb inI hown hK hP 454 (mw_at (xk_lt (show xk 454 = 4 from rfl) (by decide)) (xm_I (show xk 454 = 4 from rfl) _ _)) rfl 1 (by decide) (htb _ k1_40) (fun _ h9 => h9) rfl dF_takeItem_15 ?_
  refine lv_iload_n hx hb dF_takeItem_18 rfl (lv_at hl 2 rfl) ?_
  obtain ⟨hn2, h⟩ := h
  refine mr_iald hx hb hK hP (454 + 2) 0 (xk_lt (xk_I2 (show xk 454 = 4 from rfl)) (by decide)) (xm_4 (xk_I2 (show xk 454 = 4 from rfl)) _ _) rfl hn2 dF_takeItem_19 ?_
  refine lv_iconst (v := (-1)) hx hb dF_takeItem_20 (by decide) ?_
  refine lv_icmp_ne (tgt := 38) hx hb dF_takeItem_21 (by decide) (fun hc => ?_) (fun hc => ?_)
  · have h := h.1 hc
    refine lv_aload_n hx hb dF_takeItem_38 rfl (lv_at hl 1 rfl) ?_
    refine lv_aload_n hx hb dF_takeItem_39 rfl (lv_at hl 1 rfl) ?_
    refine va_get (D := D) (ci := 5) (v := .ref (ad 363)) (C := RF) (T := TF) (N := 11) hx hb htb inF hown hK hP 0 (mw_at (xk_lt (show xk 0 = 0 from rfl) (by decide)) (xm_F (show xk 0 = 0 from rfl) _ _)) rfl 6 (by decide) (htb _ k1_168) (fun _ h9 => h9) rfl dF_takeItem_40 ?_
    refine lv_iload hx hb dF_takeItem_43 (lv_at hl 0 rfl) ?_
    obtain ⟨hn3, h⟩ := h
    refine mr_aald hx hb hK hP 363 3 (xk_lt (show xk 363 = 7 from rfl) (by decide)) (xm_VA (show xk 363 = 7 from rfl) _ _) rfl hn3 dF_takeItem_45 ?_
    refine va_get (D := D) (ci := 4) (v := .int (I0 (364 + (I0 (454 + 1) a1.toNatClampNeg).toNatClampNeg) 0)) (C := RV) (T := TV) (N := 5) hx hb htb inV hown hK hP (364 + (I0 (454 + 1) a1.toNatClampNeg).toNatClampNeg) (mw_at (xk_lt (xk_V hn3) (by decide)) (xm_V (xk_V hn3) _ _)) rfl 0 (by decide) (htb _ k1_113) (fun _ h9 => h9) rfl dF_takeItem_46 ?_
    refine lv_iload_n hx hb dF_takeItem_49 rfl (lv_at hl 4 rfl) ?_
    refine lv_aload_n hx hb dF_takeItem_50 rfl (lv_at hl 1 rfl) ?_
    refine va_get (D := D) (ci := 5) (v := .int (I0 0 0)) (C := RF) (T := TF) (N := 11) hx hb htb inF hown hK hP 0 (mw_at (xk_lt (show xk 0 = 0 from rfl) (by decide)) (xm_F (show xk 0 = 0 from rfl) _ _)) rfl 0 (by decide) (htb _ k1_162) (fun _ h9 => h9) rfl dF_takeItem_51 ?_
    obtain ⟨hz4, h⟩ := h
    refine lv_irem hx hb dF_takeItem_54 hz4 ?_
    obtain ⟨hp5, h⟩ := h
    refine mc_i (va_runV (As := [.int (I0 (364 + (I0 (454 + 1) a1.toNatClampNeg).toNatClampNeg) 0), .int (a3 - a3 / (I0 0 0) * (I0 0 0))]) (rest := []) ⟨hx, hb, hml, hown, htb⟩ (C_F_takeEvidence l D ca ad I0 J0 (I0 (364 + (I0 (454 + 1) a1.toNatClampNeg).toNatClampNeg) 0) (a3 - a3 / (I0 0 0) * (I0 0 0)) hp5) (cwV 2 htb (gd_v k2_59 k2_61 ks10 k1_1 k2_62) rfl rfl rfl (by decide +kernel) ⟨Nat.le_of_ble_eq_true rfl, Nat.le_of_ble_eq_true rfl⟩) (mPre_V hK hP hD hN rfl (mw_at (xk_lt (show xk 0 = 0 from rfl) (by decide)) (xm_F (show xk 0 = 0 from rfl) _ _))) rfl rfl hl.1 rfl (lv_room (Nat.le_of_ble_eq_true rfl)) dF_takeItem_55 ⟨Nat.le_of_ble_eq_true rfl, Nat.le_of_ble_eq_true rfl⟩) hS (fun r6 I7 J8 H locs hpost hP hS => ?_)
    have h := h r6 I7 J8 hpost
    obtain ⟨hq9, h⟩ := h
    exact me_z hx hb hr hlk hP hS hq9 h dF_takeItem_58
  · have h := h.2 hc
    refine lv_aload_n hx hb dF_takeItem_24 rfl (lv_at hl 1 rfl) ?_
    refine lv_aload_n hx hb dF_takeItem_25 rfl (lv_at hl 1 rfl) ?_
    refine va_get (D := D) (ci := 5) (v := .ref (ad 363)) (C := RF) (T := TF) (N := 11) hx hb htb inF hown hK hP 0 (mw_at (xk_lt (show xk 0 = 0 from rfl) (by decide)) (xm_F (show xk 0 = 0 from rfl) _ _)) rfl 6 (by decide) (htb _ k1_168) (fun _ h9 => h9) rfl dF_takeItem_26 ?_
    refine lv_iload hx hb dF_takeItem_29 (lv_at hl 0 rfl) ?_
    obtain ⟨hn10, h⟩ := h
    refine mr_aald hx hb hK hP 363 3 (xk_lt (show xk 363 = 7 from rfl) (by decide)) (xm_VA (show xk 363 = 7 from rfl) _ _) rfl hn10 dF_takeItem_31 ?_
    refine lv_iload_n hx hb dF_takeItem_32 rfl (lv_at hl 3 rfl) ?_
    refine lv_iload_n hx hb dF_takeItem_33 rfl (lv_at hl 4 rfl) ?_
    obtain ⟨S11, h⟩ := h
    obtain ⟨hp12, h⟩ := h
    refine mc_i (va_runV (As := [.ref (ad (364 + (I0 (454 + 1) a1.toNatClampNeg).toNatClampNeg)), .int a2, .int a3]) (rest := []) ⟨hx, hb, hml, hown, htb⟩ (C_F_takeVote l D ca ad S11 I0 J0 (364 + (I0 (454 + 1) a1.toNatClampNeg).toNatClampNeg) a2 a3 (xk_V hn10) hp12) (cwV 3 htb (gd_v k2_38 k2_40 ks8 k1_1 k2_41) rfl rfl rfl (by decide +kernel) ⟨Nat.le_of_ble_eq_true rfl, Nat.le_of_ble_eq_true rfl⟩) (mPre_V hK hP hD hN rfl (mw_at (xk_lt (show xk 0 = 0 from rfl) (by decide)) (xm_F (show xk 0 = 0 from rfl) _ _))) rfl rfl hl.1 rfl (lv_room (Nat.le_of_ble_eq_true rfl)) dF_takeItem_34 ⟨Nat.le_of_ble_eq_true rfl, Nat.le_of_ble_eq_true rfl⟩) hS (fun r13 I14 J15 H locs hpost hP hS => ?_)
    have h := h r13 I14 J15 hpost
    obtain ⟨hq16, h⟩ := h
    exact me_z hx hb hr hlk hP hS hq16 h dF_takeItem_37
def wp_F_vote (R : Int32 → mI → mJ → Prop) (I0 : mI) (J0 : mJ) (a1 : Int32) (a2 : Int32) (a3 : Int32) : Prop :=
  (((fF_isValidator I0 J0 a1) = 0 → R (-1) I0 J0) ∧ (¬ ((fF_isValidator I0 J0 a1) = 0) → (((fF_isBlock I0 J0 a2) = 0 → R (-1) I0 J0) ∧ (¬ ((fF_isBlock I0 J0 a2) = 0) → ((a3 < 0 → R (-1) I0 J0) ∧ (¬ (a3 < 0) → ((a3 ≤ 240 → (vp_in a2 60 ∧ (¬ (I0 0 1) = 0 ∧ (∃ (S5 : mI), (pF_checkpointOn S5 I0 J0 a2 (a3 / (I0 0 1)) ∧ (vp_in a2 60 ∧ ((a3 < (I0 (3 + 6 * a2.toNatClampNeg) 1) → R (-3) I0 J0) ∧ (¬ (a3 < (I0 (3 + 6 * a2.toNatClampNeg) 1)) → (((fF_epochOf I0 J0 (I0 ((3 + 6 * a2.toNatClampNeg) + 4) 2)) < (fF_epochOf I0 J0 (fF_checkpointOn S5 I0 J0 a2 (a3 / (I0 0 1)))) → (∃ (S10 : mI), (pF_voteAlike S10 I0 J0 a1 a2 a3 ∧ (((fF_voteAlike S10 I0 J0 a1 a2 a3) = (-1) → (((I0 0 7) < 80 → (vp_in (I0 0 7) 80 ∧ (∀ (I13 : mI), I13 = mu I0 (364 + (I0 0 7).toNatClampNeg) 0 a1 → (∀ (I14 : mI), I14 = mu I13 (364 + (I0 0 7).toNatClampNeg) 1 a3 → (∀ (I15 : mI), I15 = mu I14 (364 + (I0 0 7).toNatClampNeg) 2 a2 → (∀ (I16 : mI), I16 = mu I15 (364 + (I0 0 7).toNatClampNeg) 3 (I0 ((3 + 6 * a2.toNatClampNeg) + 4) 2) → (∀ (I17 : mI), I17 = mu I16 (364 + (I0 0 7).toNatClampNeg) 4 (fF_checkpointOn S5 I0 J0 a2 (a3 / (I0 0 1))) → (∀ (I18 : mI), I18 = mu I17 0 7 ((I17 0 7) + 1) → R (I17 0 7) I18 J0)))))))) ∧ (¬ ((I0 0 7) < 80) → R (-2) I0 J0))) ∧ (¬ ((fF_voteAlike S10 I0 J0 a1 a2 a3) = (-1)) → R (fF_voteAlike S10 I0 J0 a1 a2 a3) I0 J0))))) ∧ (¬ ((fF_epochOf I0 J0 (I0 ((3 + 6 * a2.toNatClampNeg) + 4) 2)) < (fF_epochOf I0 J0 (fF_checkpointOn S5 I0 J0 a2 (a3 / (I0 0 1))))) → R (-3) I0 J0)))))))))) ∧ (¬ (a3 ≤ 240) → R (-1) I0 J0))))))))
theorem P_F_vote (S : mI) (I0 : mI) (J0 : mJ) (a1 : Int32) (a2 : Int32) (a3 : Int32)  (hp : pX3 S I0 J0 a1 a2 a3)  (R : Int32 → mI → mJ → Prop)  (hR : ∀ (r : Int32) (I' : mI) (J' : mJ), qF_vote S I0 J0 a1 a2 a3 r I' J' → R r I' J') : wp_F_vote R I0 J0 a1 a2 a3 := by
  have hX : XR S I0 J0 := hp
  have hb := hX.1.b
  unfold qF_vote at hR
  have bad : (¬ iVd S a1 ∨ ¬ iBl S a2 ∨ a3 < 0 ∨ 240 < a3) → R (-1) I0 J0 := fun z => hR _ _ _ (by unfold oVote; rw [if_pos z]; exact ⟨rfl, hX⟩)
  unfold wp_F_vote
  refine ⟨fun h => bad (Or.inl (hX.isD.mp h)), fun h => ⟨fun h2 => bad (Or.inr (Or.inl (hX.isB.mp h2))), fun h2 => ⟨fun h3 => bad (Or.inr (Or.inr (Or.inl h3))), fun h3 => ⟨fun h4 => ?_, fun h4 => bad (Or.inr (Or.inr (Or.inr (Int32.not_le.mp h4))))⟩⟩⟩⟩
  have g1 : iVd S a1 := nn (fun q => h (hX.isD.mpr q))
  have g2 : iBl S a2 := nn (fun q => h2 (hX.isB.mpr q))
  have nb : ¬ (¬ iVd S a1 ∨ ¬ iBl S a2 ∨ a3 < 0 ∨ 240 < a3) := fun q => q.elim (fun z => z g1) (fun q => q.elim (fun z => z g2) (fun q => q.elim h3 (fun z => Int32.not_lt.mpr h4 z)))
  obtain ⟨v, hv, rfl⟩ := hX.1.iD g1
  obtain ⟨b, hb0, rfl⟩ := hX.1.iB g2
  obtain ⟨s, hs, rfl⟩ := nI_of2 (M := 240) (n := 240) rfl h3 h4
  have hg := hX.1.g hb0
  unfold gW at hg
  have hE := (hX.2.2.2.1 b hb0).2.2.2.2.2.2
  have eb : (nI b).toNatClampNeg = b := nI_clamp (by omega)
  have es : cN (nI s) = s := cN_nI (by omega)
  have b60 : vp_in (nI b) 60 := vp_in_nI (by omega) (by omega)
  have hd := Nat.div_le_self s (zLn S)
  have hsl := hX.1.sl hb0
  have hz := zC_all hX.1.up hX.1.s0 (s / zLn S) b b (Nat.le_refl _) hb0
  unfold oVote at hR
  rw [if_neg nb, show cN (nI b) = b from eb, es] at hR
  rw [eb, hX.ln, hX.sl hb0, pk_div (by omega) (by omega) (by omega)]
  refine ⟨b60, nI_ne0 (by omega) (by omega), S, ⟨hX, ⟨b, hb0, rfl⟩, ⟨_, by omega, rfl⟩⟩, b60, fun h5 => hR _ _ _ ?_, fun h5 => ?_⟩
  · rw [nI_ltI (by omega) (by omega)] at h5
    rw [if_pos (Or.inl h5)]
    exact ⟨rfl, hX⟩
  · rw [nI_ltI (by omega) (by omega)] at h5
    unfold fF_epochOf fF_checkpointOn
    rw [hE.2.2.1, show cN (nI b) = b from eb, cN_nI (n := s / zLn S) (by omega), fEp_ck (by omega) (by omega), fEp_ck (by omega) (by omega)]
    refine ⟨fun h6 => ⟨S, hX, ?_⟩, fun h6 => hR _ _ _ ?_⟩
    · rw [nI_ltI (by omega) (by omega)] at h6
      rw [if_neg (fun q => q.elim (fun z => h5 z) (fun z => by omega))] at hR
      unfold fF_voteAlike
      cases hf : zFst (fun i => decide (S 7 i = nI v ∧ S 8 i = nI s ∧ S 9 i = nI b)) (zVc S) 0 with
      | some i =>
        rw [hf] at hR
        have hi := fst_lt _ _ _ hf
        exact ⟨fun z => absurd z (oI_ne (by omega)), fun _ => hR _ _ _ ⟨rfl, hX⟩⟩
      | none =>
        rw [hf] at hR
        refine ⟨fun _ => ⟨fun h7 => ?_, fun h7 => hR _ _ _ ?_⟩, fun z => absurd rfl z⟩
        · rw [hX.vc] at h7
          have h8 : zVc S < 80 := (nI_ltI (b := 80) (by omega) (by omega)).mp h7
          rw [hX.vc, show (nI (zVc S)).toNatClampNeg = zVc S from nI_clamp (by omega)]
          refine ⟨vp_in_nI (by omega) (by omega), fun I13 e13 I14 e14 I15 e15 I16 e16 I17 e17 I18 e18 => ?_⟩
          have r17 : ∀ j, j ≠ 364 + zVc S → I17 j = I0 j := fun j hj => by
            rw [e17, mu_other _ _ _ hj, e16, mu_other _ _ _ hj, e15, mu_other _ _ _ hj, e14, mu_other _ _ _ hj, e13, mu_other _ _ _ hj]
          have c17 : I17 0 7 = nI (zVc S) := by rw [r17 0 (by omega)]; exact hX.vc
          rw [c17, nI_1] at e18
          rw [c17]
          refine hR _ _ _ ?_
          show nI (zVc S) = (if zVc S = 80 then ((-2 : Int32), S) else (nI (zVc S), zAddV S (nI v) (nI b) (nI s))).1 ∧ XR (if zVc S = 80 then ((-2 : Int32), S) else (nI (zVc S), zAddV S (nI v) (nI b) (nI s))).2 I18 J0
          rw [if_neg (by omega)]
          have r18 : ∀ k, I18 (364 + zVc S) k = I17 (364 + zVc S) k := fun k => by rw [e18, mu_other _ _ _ (by omega)]
          refine ⟨rfl, hX.addV h8 hv hb0 hs (fun j h1 h2 => ?_) (fun k hk => ?_) ?_ ?_ ?_ ?_ ?_ ?_⟩
          · rw [e18, mu_other _ _ _ h1]; exact r17 j h2
          · rw [e18, mu_at, if_neg (fun y => hk y.2), r17 0 (by omega)]
          · rw [e18, mu_at, if_pos ⟨rfl, rfl⟩]
          · rw [r18, e17, mu_at, if_neg (by omega), e16, mu_at, if_neg (by omega), e15, mu_at, if_neg (by omega), e14, mu_at, if_neg (by omega), e13, mu_at, if_pos ⟨rfl, rfl⟩]
          · rw [r18, e17, mu_at, if_neg (by omega), e16, mu_at, if_neg (by omega), e15, mu_at, if_neg (by omega), e14, mu_at, if_pos ⟨rfl, rfl⟩]
          · rw [r18, e17, mu_at, if_neg (by omega), e16, mu_at, if_neg (by omega), e15, mu_at, if_pos ⟨rfl, rfl⟩]
          · rw [r18, e17, mu_at, if_neg (by omega), e16, mu_at, if_pos ⟨rfl, rfl⟩]
          · rw [r18, e17, mu_at, if_pos ⟨rfl, rfl⟩]
        · have h8 : zVc S = 80 := by
            rw [hX.vc] at h7
            have : ¬ zVc S < 80 := fun z => h7 ((nI_ltI (b := 80) (by omega) (by omega)).mpr z)
            omega
          show (-2 : Int32) = (if zVc S = 80 then ((-2 : Int32), S) else (nI (zVc S), zAddV S (nI v) (nI b) (nI s))).1 ∧ XR (if zVc S = 80 then ((-2 : Int32), S) else (nI (zVc S), zAddV S (nI v) (nI b) (nI s))).2 I0 J0
          rw [if_pos h8]
          exact ⟨rfl, hX⟩
    · rw [nI_ltI (by omega) (by omega)] at h6
      rw [if_pos (Or.inr (by omega))]
      exact ⟨rfl, hX⟩
set_option maxHeartbeats 4000000 in
set_option maxRecDepth 100000 in
theorem C_F_vote (l : Launch) (D : va_G) (ca : Nat → Nat) (ad : Nat → Nat) (S : mI) (I0 : mI) (J0 : mJ) (a1 : Int32) (a2 : Int32) (a3 : Int32)  (hp : pX3 S I0 J0 a1 a2 a3) : Met l yF_vote wF_vote ({ frames := 2, cells := 0, slots := 0, locals := 46 } : Room) (va_Pc [.ref (ad 0), .int a1, .int a2, .int a3] (mPre D vwCl (xty ca) 459 ad (xmk ca ad) nL I0 J0)) (mQi D vwCl 459 ad (xmk ca ad) (qF_vote S I0 J0 a1 a2 a3)) 0 0 (mA 459 ad) := by
  refine Met.ofW (cc := cF_vote) (maxL := 8) (ret := (some .int)) (by decide) rfl ?_
  intro p e s m args below meth c s₁ B hml hv
  obtain ⟨rfl, hP, hK, hD0, hN⟩ := hv
  have hx := B.exec
  have hb := B.bytes
  have hr := B.returns
  have htb : ∀ w ∈ wb, w.before _ s = true := fun w h => atoms_spec (ws := wF_vote) B.pre w (List.mem_cons_of_mem _ h)
  have hown : s.vm.findClass RF = some m.cls := findClass_of_methodNamed B.named
  have hlk := B.notSynchronized
  have hD := mw_Dm hD0
  have hS : va_S (mA 459 ad) s.heap s.heap [] := va_S.rf
  have hl := lv_entry ([.ref (ad 0), .int a1, .int a2, .int a3]) (n := 8) (Nat.le_of_ble_eq_true rfl)
  rw [lg_entry_eq]
  generalize (lg_sl ([.ref (ad 0), .int a1, .int a2, .int a3]) ++ List.replicate (8 - (lg_sl ([.ref (ad 0), .int a1, .int a2, .int a3])).length) Slot.unset).toArray = ls at hl ⊢
  have hl : lv_has ls 8 [(0, .ref (ad 0)), (1, .int a1), (2, .int a2), (3, .int a3)] := hl
  have h := P_F_vote S I0 J0 a1 a2 a3  hp  (qF_vote S I0 J0 a1 a2 a3)  (fun _ _ _ h => h)
  unfold wp_F_vote at h
  refine lv_aload_n hx hb dF_vote_0 rfl (lv_at hl 0 rfl) ?_
  refine lv_iload_n hx hb dF_vote_1 rfl (lv_at hl 1 rfl) ?_
  refine mc_r (va_runV (As := [.int a1]) (rest := []) ⟨hx, hb, hml, hown, htb⟩ (C_F_isValidator l D ca ad I0 J0 a1) (cwV 1 htb (gd_v k1_200 k1_202 ks0 k1_1 k1_203) rfl rfl rfl (by decide +kernel) ⟨Nat.le_of_ble_eq_true rfl, Nat.le_of_ble_eq_true rfl⟩) (mPre_V hK hP hD hN rfl (mw_at (xk_lt (show xk 0 = 0 from rfl) (by decide)) (xm_F (show xk 0 = 0 from rfl) _ _))) rfl rfl hl.1 rfl (lv_room (Nat.le_of_ble_eq_true rfl)) dF_vote_2 ⟨Nat.le_of_ble_eq_true rfl, Nat.le_of_ble_eq_true rfl⟩) hS (fun H locs hP hS => ?_)
  refine lv_if_eq (tgt := 27) hx hb dF_vote_5 (by decide) (fun hc => ?_) (fun hc => ?_)
  · have h := h.1 hc
    refine lv_iconst (v := (-1)) hx hb dF_vote_27 (by decide) ?_
    exact me_i hx hb hr hlk hP hS h dF_vote_28
  · have h := h.2 hc
    refine lv_aload_n hx hb dF_vote_8 rfl (lv_at hl 0 rfl) ?_
    refine lv_iload_n hx hb dF_vote_9 rfl (lv_at hl 2 rfl) ?_
    refine mc_r (va_runV (As := [.int a2]) (rest := []) ⟨hx, hb, hml, hown, htb⟩ (C_F_isBlock l D ca ad I0 J0 a2) (cwV 1 htb (gd_v k1_204 k1_206 ks1 k1_1 k1_207) rfl rfl rfl (by decide +kernel) ⟨Nat.le_of_ble_eq_true rfl, Nat.le_of_ble_eq_true rfl⟩) (mPre_V hK hP hD hN rfl (mw_at (xk_lt (show xk 0 = 0 from rfl) (by decide)) (xm_F (show xk 0 = 0 from rfl) _ _))) rfl rfl hl.1 rfl (lv_room (Nat.le_of_ble_eq_true rfl)) dF_vote_10 ⟨Nat.le_of_ble_eq_true rfl, Nat.le_of_ble_eq_true rfl⟩) hS (fun H locs hP hS => ?_)
    refine lv_if_eq (tgt := 27) hx hb dF_vote_13 (by decide) (fun hc => ?_) (fun hc => ?_)
    · have h := h.1 hc
      refine lv_iconst (v := (-1)) hx hb dF_vote_27 (by decide) ?_
      exact me_i hx hb hr hlk hP hS h dF_vote_28
    · have h := h.2 hc
      refine lv_iload_n hx hb dF_vote_16 rfl (lv_at hl 3 rfl) ?_
      refine lv_if_lt (tgt := 27) hx hb dF_vote_17 (by decide) (fun hc => ?_) (fun hc => ?_)
      · have h := h.1 hc
        refine lv_iconst (v := (-1)) hx hb dF_vote_27 (by decide) ?_
        exact me_i hx hb hr hlk hP hS h dF_vote_28
      · have h := h.2 hc
        refine lv_iload_n hx hb dF_vote_20 rfl (lv_at hl 3 rfl) ?_
        refine lv_sipush (v := 240) hx hb dF_vote_21 (by decide) ?_
        refine lv_icmp_le (tgt := 29) hx hb dF_vote_24 (by decide) (fun hc => ?_) (fun hc => ?_)
        · have h := h.1 hc
          refine lv_aload_n hx hb dF_vote_29 rfl (lv_at hl 0 rfl) ?_
          refine va_get (D := D) (ci := 5) (v := .ref (ad 2)) (C := RF) (T := TF) (N := 11) hx hb htb inF hown hK hP 0 (mw_at (xk_lt (show xk 0 = 0 from rfl) (by decide)) (xm_F (show xk 0 = 0 from rfl) _ _)) rfl 4 (by decide) (htb _ k1_166) (fun _ h9 => h9) rfl dF_vote_30 ?_
          refine lv_iload_n hx hb dF_vote_33 rfl (lv_at hl 2 rfl) ?_
          obtain ⟨hn3, h⟩ := h
          refine mr_aald hx hb hK hP 2 2 (xk_lt (show xk 2 = 2 from rfl) (by decide)) (xm_BA (show xk 2 = 2 from rfl) _ _) rfl hn3 dF_vote_34 ?_
          refine va_get (D := D) (ci := 0) (v := .ref (ad ((3 + 6 * a2.toNatClampNeg) + 4))) (C := RB) (T := TB) (N := 6) hx hb htb inB hown hK hP (3 + 6 * a2.toNatClampNeg) (mw_at (xk_lt (xk_B hn3) (by decide)) (xm_B (xk_B hn3) _ _)) rfl 5 (by decide) (htb _ k1_92) (fun _ h9 => h9) rfl dF_vote_35 ?_
          refine va_get (D := D) (ci := 3) (v := .int (I0 ((3 + 6 * a2.toNatClampNeg) + 4) 2)) (C := RS) (T := TS) (N := 7) hx hb htb inS hown hK hP ((3 + 6 * a2.toNatClampNeg) + 4) (mw_at (xk_lt (xk_BS (xk_B hn3)) (by decide)) (xm_S (xk_BS (xk_B hn3)) _ _)) rfl 2 (by decide) (htb _ k1_62) (fun _ h9 => h9) rfl dF_vote_38 ?_
          refine lv_istore (lv' := [(4, .int (I0 ((3 + 6 * a2.toNatClampNeg) + 4) 2)), (0, .ref (ad 0)), (1, .int a1), (2, .int a2), (3, .int a3)]) hx hb dF_vote_41 hl (by decide) rfl (fun ls hl => ?_)
          refine lv_aload_n hx hb dF_vote_43 rfl (lv_at hl 1 rfl) ?_
          refine lv_iload_n hx hb dF_vote_44 rfl (lv_at hl 3 rfl) ?_
          refine lv_iload_n hx hb dF_vote_45 rfl (lv_at hl 4 rfl) ?_
          refine lv_aload_n hx hb dF_vote_46 rfl (lv_at hl 1 rfl) ?_
          refine va_get (D := D) (ci := 5) (v := .int (I0 0 1)) (C := RF) (T := TF) (N := 11) hx hb htb inF hown hK hP 0 (mw_at (xk_lt (show xk 0 = 0 from rfl) (by decide)) (xm_F (show xk 0 = 0 from rfl) _ _)) rfl 1 (by decide) (htb _ k1_163) (fun _ h9 => h9) rfl dF_vote_47 ?_
          obtain ⟨hz4, h⟩ := h
          refine lv_idiv hx hb dF_vote_50 hz4 ?_
          obtain ⟨S5, h⟩ := h
          obtain ⟨hp6, h⟩ := h
          refine mc_r (va_runV (As := [.int a2, .int (a3 / (I0 0 1))]) (rest := []) ⟨hx, hb, hml, hown, htb⟩ (C_F_checkpointOn l D ca ad S5 I0 J0 a2 (a3 / (I0 0 1)) hp6) (cwV 2 htb (gd_v k1_208 k1_210 ks2 k1_1 k1_211) rfl rfl rfl (by decide +kernel) ⟨Nat.le_of_ble_eq_true rfl, Nat.le_of_ble_eq_true rfl⟩) (mPre_V hK hP hD hN rfl (mw_at (xk_lt (show xk 0 = 0 from rfl) (by decide)) (xm_F (show xk 0 = 0 from rfl) _ _))) rfl rfl hl.1 rfl (lv_room (Nat.le_of_ble_eq_true rfl)) dF_vote_51 ⟨Nat.le_of_ble_eq_true rfl, Nat.le_of_ble_eq_true rfl⟩) hS (fun H locs hP hS => ?_)
          refine lv_istore (lv' := [(5, .int (fF_checkpointOn S5 I0 J0 a2 (a3 / (I0 0 1)))), (4, .int (I0 ((3 + 6 * a2.toNatClampNeg) + 4) 2)), (0, .ref (ad 0)), (1, .int a1), (2, .int a2), (3, .int a3)]) hx hb dF_vote_54 hl (by decide) rfl (fun ls hl => ?_)
          refine lv_aload_n hx hb dF_vote_56 rfl (lv_at hl 2 rfl) ?_
          refine va_get (D := D) (ci := 5) (v := .ref (ad 2)) (C := RF) (T := TF) (N := 11) hx hb htb inF hown hK hP 0 (mw_at (xk_lt (show xk 0 = 0 from rfl) (by decide)) (xm_F (show xk 0 = 0 from rfl) _ _)) rfl 4 (by decide) (htb _ k1_166) (fun _ h9 => h9) rfl dF_vote_57 ?_
          refine lv_iload_n hx hb dF_vote_60 rfl (lv_at hl 4 rfl) ?_
          obtain ⟨hn7, h⟩ := h
          refine mr_aald hx hb hK hP 2 2 (xk_lt (show xk 2 = 2 from rfl) (by decide)) (xm_BA (show xk 2 = 2 from rfl) _ _) rfl hn7 dF_vote_61 ?_
          refine va_get (D := D) (ci := 0) (v := .int (I0 (3 + 6 * a2.toNatClampNeg) 1)) (C := RB) (T := TB) (N := 6) hx hb htb inB hown hK hP (3 + 6 * a2.toNatClampNeg) (mw_at (xk_lt (xk_B hn7) (by decide)) (xm_B (xk_B hn7) _ _)) rfl 1 (by decide) (htb _ k1_85) (fun _ h9 => h9) rfl dF_vote_62 ?_
          refine lv_iload_n hx hb dF_vote_65 rfl (lv_at hl 5 rfl) ?_
          refine lv_icmp_gt (tgt := 82) hx hb dF_vote_66 (by decide) (fun hc => ?_) (fun hc => ?_)
          · have h := h.1 hc
            refine lv_bipush (v := (-3)) hx hb dF_vote_82 (by decide) ?_
            exact me_i hx hb hr hlk hP hS h dF_vote_84
          · have h := h.2 hc
            refine lv_iload hx hb dF_vote_69 (lv_at hl 1 rfl) ?_
            refine mc_r (va_runS (As := [.int (I0 ((3 + 6 * a2.toNatClampNeg) + 4) 2)]) (rest := []) ⟨hx, hb, hml, hown, htb⟩ (C_F_epochOf l D ca ad I0 J0 (I0 ((3 + 6 * a2.toNatClampNeg) + 4) 2)) (va_cwS 1 htb (gd_s k1_219 k1_220 k1_1 k1_221) rfl rfl rfl (by decide +kernel) ⟨Nat.le_of_ble_eq_true rfl, Nat.le_of_ble_eq_true rfl⟩) (mPre_S hK hP hD hN) rfl rfl hl.1 rfl (lv_room (Nat.le_of_ble_eq_true rfl)) dF_vote_71 ⟨Nat.le_of_ble_eq_true rfl, Nat.le_of_ble_eq_true rfl⟩) hS (fun H locs hP hS => ?_)
            refine lv_iload hx hb dF_vote_74 (lv_at hl 0 rfl) ?_
            refine mc_r (va_runS (As := [.int (fF_checkpointOn S5 I0 J0 a2 (a3 / (I0 0 1)))]) (rest := [.int (fF_epochOf I0 J0 (I0 ((3 + 6 * a2.toNatClampNeg) + 4) 2))]) ⟨hx, hb, hml, hown, htb⟩ (C_F_epochOf l D ca ad I0 J0 (fF_checkpointOn S5 I0 J0 a2 (a3 / (I0 0 1)))) (va_cwS 1 htb (gd_s k1_219 k1_220 k1_1 k1_221) rfl rfl rfl (by decide +kernel) ⟨Nat.le_of_ble_eq_true rfl, Nat.le_of_ble_eq_true rfl⟩) (mPre_S hK hP hD hN) rfl rfl hl.1 rfl (lv_room (Nat.le_of_ble_eq_true rfl)) dF_vote_76 ⟨Nat.le_of_ble_eq_true rfl, Nat.le_of_ble_eq_true rfl⟩) hS (fun H locs hP hS => ?_)
            refine lv_icmp_lt (tgt := 85) hx hb dF_vote_79 (by decide) (fun hc => ?_) (fun hc => ?_)
            · have h := h.1 hc
              refine lv_aload_n hx hb dF_vote_85 rfl (lv_at hl 2 rfl) ?_
              refine lv_iload_n hx hb dF_vote_86 rfl (lv_at hl 3 rfl) ?_
              refine lv_iload_n hx hb dF_vote_87 rfl (lv_at hl 4 rfl) ?_
              refine lv_iload_n hx hb dF_vote_88 rfl (lv_at hl 5 rfl) ?_
              obtain ⟨S10, h⟩ := h
              obtain ⟨hp11, h⟩ := h
              refine mc_r (va_runV (As := [.int a1, .int a2, .int a3]) (rest := []) ⟨hx, hb, hml, hown, htb⟩ (C_F_voteAlike l D ca ad S10 I0 J0 a1 a2 a3 hp11) (cwV 3 htb (gd_v k1_222 k1_224 ks4 k1_1 k1_225) rfl rfl rfl (by decide +kernel) ⟨Nat.le_of_ble_eq_true rfl, Nat.le_of_ble_eq_true rfl⟩) (mPre_V hK hP hD hN rfl (mw_at (xk_lt (show xk 0 = 0 from rfl) (by decide)) (xm_F (show xk 0 = 0 from rfl) _ _))) rfl rfl hl.1 rfl (lv_room (Nat.le_of_ble_eq_true rfl)) dF_vote_89 ⟨Nat.le_of_ble_eq_true rfl, Nat.le_of_ble_eq_true rfl⟩) hS (fun H locs hP hS => ?_)
              refine lv_istore (lv' := [(6, .int (fF_voteAlike S10 I0 J0 a1 a2 a3)), (5, .int (fF_checkpointOn S5 I0 J0 a2 (a3 / (I0 0 1)))), (4, .int (I0 ((3 + 6 * a2.toNatClampNeg) + 4) 2)), (0, .ref (ad 0)), (1, .int a1), (2, .int a2), (3, .int a3)]) hx hb dF_vote_92 hl (by decide) rfl (fun ls hl => ?_)
              refine lv_iload hx hb dF_vote_94 (lv_at hl 0 rfl) ?_
              refine lv_iconst (v := (-1)) hx hb dF_vote_96 (by decide) ?_
              refine lv_icmp_eq (tgt := 103) hx hb dF_vote_97 (by decide) (fun hc => ?_) (fun hc => ?_)
              · have h := h.1 hc
                refine lv_aload_n hx hb dF_vote_103 rfl (lv_at hl 3 rfl) ?_
                refine va_get (D := D) (ci := 5) (v := .int (I0 0 7)) (C := RF) (T := TF) (N := 11) hx hb htb inF hown hK hP 0 (mw_at (xk_lt (show xk 0 = 0 from rfl) (by decide)) (xm_F (show xk 0 = 0 from rfl) _ _)) rfl 7 (by decide) (htb _ k1_169) (fun _ h9 => h9) rfl dF_vote_104 ?_
                refine lv_bipush (v := 80) hx hb dF_vote_107 (by decide) ?_
                refine lv_icmp_lt (tgt := 115) hx hb dF_vote_109 (by decide) (fun hc => ?_) (fun hc => ?_)
                · have h := h.1 hc
                  refine lv_aload_n hx hb dF_vote_115 rfl (lv_at hl 3 rfl) ?_
                  refine va_get (D := D) (ci := 5) (v := .ref (ad 363)) (C := RF) (T := TF) (N := 11) hx hb htb inF hown hK hP 0 (mw_at (xk_lt (show xk 0 = 0 from rfl) (by decide)) (xm_F (show xk 0 = 0 from rfl) _ _)) rfl 6 (by decide) (htb _ k1_168) (fun _ h9 => h9) rfl dF_vote_116 ?_
                  refine lv_aload_n hx hb dF_vote_119 rfl (lv_at hl 3 rfl) ?_
                  refine va_get (D := D) (ci := 5) (v := .int (I0 0 7)) (C := RF) (T := TF) (N := 11) hx hb htb inF hown hK hP 0 (mw_at (xk_lt (show xk 0 = 0 from rfl) (by decide)) (xm_F (show xk 0 = 0 from rfl) _ _)) rfl 7 (by decide) (htb _ k1_169) (fun _ h9 => h9) rfl dF_vote_120 ?_
                  obtain ⟨hn12, h⟩ := h
                  refine mr_aald hx hb hK hP 363 3 (xk_lt (show xk 363 = 7 from rfl) (by decide)) (xm_VA (show xk 363 = 7 from rfl) _ _) rfl hn12 dF_vote_123 ?_
                  refine lv_astore (lv' := [(7, .ref (ad (364 + (I0 0 7).toNatClampNeg))), (6, .int (fF_voteAlike S10 I0 J0 a1 a2 a3)), (5, .int (fF_checkpointOn S5 I0 J0 a2 (a3 / (I0 0 1)))), (4, .int (I0 ((3 + 6 * a2.toNatClampNeg) + 4) 2)), (0, .ref (ad 0)), (1, .int a1), (2, .int a2), (3, .int a3)]) hx hb dF_vote_124 hl (by decide) rfl (fun ls hl => ?_)
                  refine lv_aload hx hb dF_vote_126 (lv_at hl 0 rfl) ?_
                  refine lv_iload_n hx hb dF_vote_128 rfl (lv_at hl 5 rfl) ?_
                  refine mr_puti hx hb htb inV tyV tyV_ok nmV hown hK hP hD hS (364 + (I0 0 7).toNatClampNeg) (xk_lt (xk_V hn12) (by decide)) (xm_V (xk_V hn12) _ _) rfl 0 (by decide) (htb _ k1_113) (fun _ h9 => h9) rfl (by decide +kernel) (Nat.le_of_ble_eq_true rfl) (xm_V (xk_V hn12) _ _) dF_vote_129 (fun H locs hP hS => ?_)
                  generalize heI13 : mu I0 (364 + (I0 0 7).toNatClampNeg) 0 a1 = I13 at hP
                  have h := h I13 heI13.symm
                  refine lv_aload hx hb dF_vote_132 (lv_at hl 0 rfl) ?_
                  refine lv_iload_n hx hb dF_vote_134 rfl (lv_at hl 7 rfl) ?_
                  refine mr_puti hx hb htb inV tyV tyV_ok nmV hown hK hP hD hS (364 + (I0 0 7).toNatClampNeg) (xk_lt (xk_V hn12) (by decide)) (xm_V (xk_V hn12) _ _) rfl 1 (by decide) (htb _ k1_114) (fun _ h9 => h9) rfl (by decide +kernel) (Nat.le_of_ble_eq_true rfl) (xm_V (xk_V hn12) _ _) dF_vote_135 (fun H locs hP hS => ?_)
                  generalize heI14 : mu I13 (364 + (I0 0 7).toNatClampNeg) 1 a3 = I14 at hP
                  have h := h I14 heI14.symm
                  refine lv_aload hx hb dF_vote_138 (lv_at hl 0 rfl) ?_
                  refine lv_iload_n hx hb dF_vote_140 rfl (lv_at hl 6 rfl) ?_
                  refine mr_puti hx hb htb inV tyV tyV_ok nmV hown hK hP hD hS (364 + (I0 0 7).toNatClampNeg) (xk_lt (xk_V hn12) (by decide)) (xm_V (xk_V hn12) _ _) rfl 2 (by decide) (htb _ k1_115) (fun _ h9 => h9) rfl (by decide +kernel) (Nat.le_of_ble_eq_true rfl) (xm_V (xk_V hn12) _ _) dF_vote_141 (fun H locs hP hS => ?_)
                  generalize heI15 : mu I14 (364 + (I0 0 7).toNatClampNeg) 2 a2 = I15 at hP
                  have h := h I15 heI15.symm
                  refine lv_aload hx hb dF_vote_144 (lv_at hl 0 rfl) ?_
                  refine lv_iload hx hb dF_vote_146 (lv_at hl 3 rfl) ?_
                  refine mr_puti hx hb htb inV tyV tyV_ok nmV hown hK hP hD hS (364 + (I0 0 7).toNatClampNeg) (xk_lt (xk_V hn12) (by decide)) (xm_V (xk_V hn12) _ _) rfl 3 (by decide) (htb _ k1_117) (fun _ h9 => h9) rfl (by decide +kernel) (Nat.le_of_ble_eq_true rfl) (xm_V (xk_V hn12) _ _) dF_vote_148 (fun H locs hP hS => ?_)
                  generalize heI16 : mu I15 (364 + (I0 0 7).toNatClampNeg) 3 (I0 ((3 + 6 * a2.toNatClampNeg) + 4) 2) = I16 at hP
                  have h := h I16 heI16.symm
                  refine lv_aload hx hb dF_vote_151 (lv_at hl 0 rfl) ?_
                  refine lv_iload hx hb dF_vote_153 (lv_at hl 2 rfl) ?_
                  refine mr_puti hx hb htb inV tyV tyV_ok nmV hown hK hP hD hS (364 + (I0 0 7).toNatClampNeg) (xk_lt (xk_V hn12) (by decide)) (xm_V (xk_V hn12) _ _) rfl 4 (by decide) (htb _ k1_119) (fun _ h9 => h9) rfl (by decide +kernel) (Nat.le_of_ble_eq_true rfl) (xm_V (xk_V hn12) _ _) dF_vote_155 (fun H locs hP hS => ?_)
                  generalize heI17 : mu I16 (364 + (I0 0 7).toNatClampNeg) 4 (fF_checkpointOn S5 I0 J0 a2 (a3 / (I0 0 1))) = I17 at hP
                  have h := h I17 heI17.symm
                  refine lv_aload_n hx hb dF_vote_158 rfl (lv_at hl 4 rfl) ?_
                  refine lv_dup hx hb dF_vote_159 rfl ?_
                  refine va_get (D := D) (ci := 5) (v := .int (I17 0 7)) (C := RF) (T := TF) (N := 11) hx hb htb inF hown hK hP 0 (mw_at (xk_lt (show xk 0 = 0 from rfl) (by decide)) (xm_F (show xk 0 = 0 from rfl) _ _)) rfl 7 (by decide) (htb _ k1_169) (fun _ h9 => h9) rfl dF_vote_160 ?_
                  refine lv_dup_x1 hx hb dF_vote_163 rfl rfl ?_
                  refine lv_iconst (v := 1) hx hb dF_vote_164 (by decide) ?_
                  refine lv_iadd hx hb dF_vote_165 ?_
                  refine mr_puti hx hb htb inF tyF tyF_ok nmF hown hK hP hD hS 0 (xk_lt (show xk 0 = 0 from rfl) (by decide)) (xm_F (show xk 0 = 0 from rfl) _ _) rfl 7 (by decide) (htb _ k1_169) (fun _ h9 => h9) rfl (by decide +kernel) (Nat.le_of_ble_eq_true rfl) (xm_F (show xk 0 = 0 from rfl) _ _) dF_vote_166 (fun H locs hP hS => ?_)
                  generalize heI18 : mu I17 0 7 ((I17 0 7) + 1) = I18 at hP
                  have h := h I18 heI18.symm
                  exact me_i hx hb hr hlk hP hS h dF_vote_169
                · have h := h.2 hc
                  refine lv_bipush (v := (-2)) hx hb dF_vote_112 (by decide) ?_
                  exact me_i hx hb hr hlk hP hS h dF_vote_114
              · have h := h.2 hc
                refine lv_iload hx hb dF_vote_100 (lv_at hl 0 rfl) ?_
                exact me_i hx hb hr hlk hP hS h dF_vote_102
            · have h := h.2 hc
              refine lv_bipush (v := (-3)) hx hb dF_vote_82 (by decide) ?_
              exact me_i hx hb hr hlk hP hS h dF_vote_84
        · have h := h.2 hc
          refine lv_iconst (v := (-1)) hx hb dF_vote_27 (by decide) ?_
          exact me_i hx hb hr hlk hP hS h dF_vote_28
def wp_F_propose_109 (K109 : mI → mJ → Int32 → Int32 → Prop) (R : Int32 → mI → mJ → Prop) (I : mI) (J : mJ) (a1 : Int32) (a2 : Int32) (x3 : Int32) (x5 : Int32) : Prop :=
  (((I 454 2) ≤ x5 → (vp_in (I 0 5) 60 ∧ (∀ (I16 : mI), I16 = mu I (3 + 6 * (I 0 5).toNatClampNeg) 0 a1 → (∀ (I17 : mI), I17 = mu I16 (3 + 6 * (I 0 5).toNatClampNeg) 1 a2 → (∀ (I18 : mI), I18 = mu I17 (3 + 6 * (I 0 5).toNatClampNeg) 2 x3 → (vp_in a1 60 ∧ (∀ (J20 : mJ), J20 = mul J (3 + 6 * (I 0 5).toNatClampNeg) 3 ((J (3 + 6 * a1.toNatClampNeg) 3) ||| ((1 : Int64) <<< ((I18 0 5).toInt64 &&& 63))) → (∀ (I23 : mI) (J24 : mJ), qI_copyFrom I18 J20 ((3 + 6 * (I 0 5).toNatClampNeg) + 1) 454 I23 J24 → (∀ (I27 : mI) (J28 : mJ), qS_copyFrom I23 J24 ((3 + 6 * (I 0 5).toNatClampNeg) + 4) 457 I27 J28 → (∀ (I29 : mI), I29 = mu I27 454 2 0 → (∀ (I30 : mI), I30 = mu I29 0 5 ((I29 0 5) + 1) → R (I29 0 5) I30 J28))))))))))) ∧ (¬ ((I 454 2) ≤ x5) → (∃ (S31 : mI), (pF_takeItem S31 I J x5 a1 a2 ∧ (∀ (r33 : Int32) (I34 : mI) (J35 : mJ), qF_takeItem S31 I J x5 a1 a2 r33 I34 J35 → ((¬ (r33 = 0) → K109 I34 J35 x3 (x5 + 1)) ∧ (r33 = 0 → R ((-10) - x5) I34 J35)))))))
def wp_F_propose (K109 : mI → mJ → Int32 → Int32 → Prop) (R : Int32 → mI → mJ → Prop) (I0 : mI) (J0 : mJ) (a1 : Int32) (a2 : Int32) : Prop :=
  (((fF_isBlock I0 J0 a1) = 0 → R (-1) I0 J0) ∧ (¬ ((fF_isBlock I0 J0 a1) = 0) → ((a2 < 1 → R (-1) I0 J0) ∧ (¬ (a2 < 1) → ((a2 ≤ 240 → (¬ (I0 0 0) = 0 ∧ (vp_in a1 60 ∧ (vp_in a1 60 ∧ ((a2 ≤ (I0 (3 + 6 * a1.toNatClampNeg) 1) → R (-3) I0 J0) ∧ (¬ (a2 ≤ (I0 (3 + 6 * a1.toNatClampNeg) 1)) → (((fF_isIn I0 J0 (I0 ((3 + 6 * a1.toNatClampNeg) + 4) 1) (a2 - a2 / (I0 0 0) * (I0 0 0))) = 0 → (((I0 0 5) < 60 → (∀ (I8 : mI) (J9 : mJ), qS_copyFrom I0 J0 457 ((3 + 6 * a1.toNatClampNeg) + 4) I8 J9 → (¬ (I8 0 1) = 0 ∧ (pS_passTo I8 J9 457 (a2 / (I8 0 1)) (I8 0 0) ∧ (∀ (I13 : mI) (J14 : mJ), qS_passTo I8 J9 457 (a2 / (I8 0 1)) (I8 0 0) I13 J14 → K109 I13 J14 (a2 - a2 / (I0 0 0) * (I0 0 0)) 0))))) ∧ (¬ ((I0 0 5) < 60) → R (-2) I0 J0))) ∧ (¬ ((fF_isIn I0 J0 (I0 ((3 + 6 * a1.toNatClampNeg) + 4) 1) (a2 - a2 / (I0 0 0) * (I0 0 0))) = 0) → R (-3) I0 J0)))))))) ∧ (¬ (a2 ≤ 240) → R (-1) I0 J0))))))
theorem P_F_propose (S : mI) (I0 : mI) (J0 : mJ) (a1 : Int32) (a2 : Int32)  (hp : pX2 S I0 J0 a1 a2) (K109 : mI → mJ → Int32 → Int32 → Prop) (R : Int32 → mI → mJ → Prop) (c109 : ∀ (I : mI) (J : mJ) (x3 : Int32) (x5 : Int32), wp_F_propose_109 K109 R I J a1 a2 x3 x5 → K109 I J x3 x5) (hR : ∀ (r : Int32) (I' : mI) (J' : mJ), qF_propose S I0 J0 a1 a2 r I' J' → R r I' J') : wp_F_propose K109 R I0 J0 a1 a2 := by
  have hX : XR S I0 J0 := hp
  have hb := hX.1.b
  unfold qF_propose at hR
  have bad : (¬ iBl S a1 ∨ a2 < 1 ∨ 240 < a2) → R (-1) I0 J0 := fun z => hR _ _ _ (by unfold oPro; rw [if_pos z]; exact ⟨rfl, hX⟩)
  unfold wp_F_propose
  refine ⟨fun h => bad (Or.inl (hX.isB.mp h)), fun h => ⟨fun h2 => bad (Or.inr (Or.inl h2)), fun h2 => ⟨fun h3 => ?_, fun h3 => bad (Or.inr (Or.inr (Int32.not_le.mp h3)))⟩⟩⟩
  have g1 : iBl S a1 := nn (fun q => h (hX.isB.mpr q))
  have nb : ¬ (¬ iBl S a1 ∨ a2 < 1 ∨ 240 < a2) := fun q => q.elim (fun z => z g1) (fun q => q.elim h2 (fun z => Int32.not_lt.mpr h3 z))
  obtain ⟨p, hp0, rfl⟩ := hX.1.iB g1
  have h20 : ¬ a2 < 0 := fun z => h2 (Int32.lt_iff_toInt_lt.mpr (by
    have := Int32.lt_iff_toInt_lt.mp z
    have e0 : (0 : Int32).toInt = 0 := rfl
    have e1 : (1 : Int32).toInt = 1 := rfl
    rw [e0] at this
    rw [e1]
    omega))
  obtain ⟨s, hs, rfl⟩ := nI_of2 (M := 240) (n := 240) rfl h20 h3
  have hs1 : 1 ≤ s := by
    have : ¬ s < 1 := fun z => h2 ((nI_ltI (b := 1) (by omega) (by omega)).mpr z)
    omega
  have hg := hX.1.g hp0
  have hge := hX.1.ge hp0
  have hE := (hX.2.2.2.1 p hp0).2.2.2.2.2.2
  have ep : (nI p).toNatClampNeg = p := nI_clamp (by omega)
  have es : cN (nI s) = s := cN_nI (by omega)
  have p60 : vp_in (nI p) 60 := vp_in_nI (by omega) (by omega)
  have hsl := hX.1.sl hp0
  have hd := Nat.div_le_self s (zLn S)
  have hmod := Nat.mod_lt s (show 0 < zNv S by omega)
  unfold oPro at hR
  rw [if_neg nb, show cN (nI p) = p from ep, es] at hR
  unfold fF_isIn
  rw [ep, hX.nv, hX.sl hp0, pk_rem (by omega) (by omega) (by omega), fBit_bz _ (by omega), hE.2.1 _ (by omega), hX.bc]
  refine ⟨nI_ne0 (by omega) (by omega), p60, p60, fun h4 => hR _ _ _ ?_, fun h4 => ⟨fun h5 => ⟨fun h6 I8 J9 hq8 => ?_, fun h6 => hR _ _ _ ?_⟩, fun h5 => hR _ _ _ ?_⟩⟩
  · rw [nI_leI (by omega) (by omega)] at h4
    rw [if_pos (Or.inl h4)]
    exact ⟨rfl, hX⟩
  · rw [nI_leI (by omega) (by omega)] at h4
    have h7 : zBc S < 60 := (nI_ltI (b := 60) (by omega) (by omega)).mp h6
    rw [if_neg (fun q => q.elim (fun z => h4 z) (fun z => by rw [bz_0.mp h5] at z; exact absurd z (by decide))), if_neg (by omega)] at hR
    have x8 := cpy_X hq8 hE
    obtain ⟨rfl, r8, -, -⟩ := hq8
    have hX8 : XR S I8 J9 := hX.dr (fun j hj => r8 j (by omega) (by omega)) rfl
    have hle : gE (gS S p) ≤ s / zLn S := by rw [hge]; exact Nat.div_le_div_right (by omega)
    rw [hX8.ln, hX8.nv, pk_div (by omega) (by omega) (by omega)]
    refine ⟨nI_ne0 (by omega) (by omega), ⟨gS S p, s / zLn S, zNv S, x8, rfl, rfl, by omega, by omega, hle⟩, fun I13 J14 hq13 => ?_⟩
    obtain ⟨rfl, r13, x13⟩ := hq13
    have x13 := x13 _ x8 (by rw [cN_nI (n := s / zLn S) (by omega)]; exact hle)
    rw [cN_nI (n := s / zLn S) (by omega), cN_nI (n := zNv S) (by omega)] at x13
    have hX13 : XR S I13 J14 := hX8.dr (fun j hj => r13 j (by omega) (by omega)) rfl
    have hG0 : gW (zNv S) (zBc S) (gTo (zNv S) (gS S p) (s / zLn S)) := gTo_W hg hle (by omega)
    have hGk : ∀ k, k ≤ zPc S → gW (zNv S) (zBc S) (gPre S p s k) ∧ gE (gPre S p s k) = s / zLn S := fun k hk => by
      have := gFold_W hX.1.2.2.2.1 p s (zNi S) hG0 k (fun i hi => (hX.1.2.2.1 i (by omega)).v (by omega))
      refine ⟨this.1, ?_⟩
      unfold gPre
      rw [this.2, gTo_E _ hle]
    have key : ∀ m k I J, k + m = zPc S → XR S I J → xE (gPre S p s k) I 457 → (∀ i, zFst (gBad S p s) m k = some i → ∀ I' J', XR S I' J' → R (-10 - nI i) I' J') → (zFst (gBad S p s) m k = none → ∀ I' J', XR (zAddB S (nI p) (nI s)) I' J' → R (nI (zBc S)) I' J') → K109 I J (nI (s % zNv S)) (nI k) := by
      intro m
      induction m with
      | zero =>
        intro k I J hk hXI hxI hf hn
        have hk : k = zPc S := by omega
        subst hk
        apply c109
        unfold wp_F_propose_109
        rw [hXI.pc, hXI.bc, show (nI (zBc S)).toNatClampNeg = zBc S from nI_clamp (by omega), ep]
        refine ⟨fun _ => ⟨vp_in_nI (by omega) (by omega), fun I16 e16 I17 e17 I18 e18 => ⟨p60, fun J20 e20 I23 J24 hq23 I27 J28 hq27 I29 e29 I30 e30 => ?_⟩⟩, fun z => absurd (nI_le (Nat.le_refl _) (by omega)) z⟩
        have r18 : ∀ j, j ≠ 3 + 6 * zBc S → I18 j = I j := fun j hj => by rw [e18, mu_other _ _ _ hj, e17, mu_other _ _ _ hj, e16, mu_other _ _ _ hj]
        have c18 : I18 0 5 = nI (zBc S) := by rw [r18 0 (by omega)]; exact hXI.bc
        rw [c18] at e20
        obtain ⟨rfl, r23, s23, t23⟩ := hq23
        have x23 : xE (gPre S p s (zPc S)) I23 457 := by
          refine hxI.tr ?_ ?_
          · rw [r23 457 (by omega) (by omega) (by omega), r18 457 (by omega)]
          · rw [r23 (457 + 1) (by omega) (by omega) (by omega), r18 (457 + 1) (by omega)]
        have x27 := cpy_X hq27 x23
        obtain ⟨rfl, r27, -, -⟩ := hq27
        have c29 : I29 0 5 = nI (zBc S) := by
          rw [e29, mu_other _ _ _ (by omega), r27 0 (by omega) (by omega), r23 0 (by omega) (by omega) (by omega)]; exact c18
        rw [c29, nI_1] at e30
        rw [c29]
        refine hn rfl _ _ (hXI.addB h7 hp0 hs (by omega) (fun j h1 h2 h3 => ?_) (fun k hk => ?_) ?_ ?_ ?_ ?_ ?_ (fun j hj => ?_) ?_ ?_ (fun i hi => ⟨?_, ?_⟩) ?_)
        · rw [e30, mu_other _ _ _ h1, e29, mu_other _ _ _ h2, r27 j (by omega) (by omega), r23 j (by omega) (by omega) (by omega), r18 j (by omega)]
        · rw [e30, mu_at, if_neg (fun y => hk y.2), e29, mu_other _ _ _ (by omega), r27 0 (by omega) (by omega), r23 0 (by omega) (by omega) (by omega), r18 0 (by omega)]
        · rw [e30, mu_at, if_pos ⟨rfl, rfl⟩]
        · rw [e30, mu_other _ _ _ (by omega), e29, mu_at, if_pos ⟨rfl, rfl⟩]
        · rw [e30, mu_other _ _ _ (by omega), e29, mu_other _ _ _ (by omega), r27 _ (by omega) (by omega), r23 _ (by omega) (by omega) (by omega), e18, mu_at, if_neg (by omega), e17, mu_at, if_neg (by omega), e16, mu_at, if_pos ⟨rfl, rfl⟩]
        · rw [e30, mu_other _ _ _ (by omega), e29, mu_other _ _ _ (by omega), r27 _ (by omega) (by omega), r23 _ (by omega) (by omega) (by omega), e18, mu_at, if_neg (by omega), e17, mu_at, if_pos ⟨rfl, rfl⟩]
        · rw [e30, mu_other _ _ _ (by omega), e29, mu_other _ _ _ (by omega), r27 _ (by omega) (by omega), r23 _ (by omega) (by omega) (by omega), e18, mu_at, if_pos ⟨rfl, rfl⟩]
        · rw [e20, mul_other _ _ _ hj]
        · rw [e20, mul_at, if_pos ⟨rfl, rfl⟩]
        · rw [e30, mu_other _ _ _ (by omega), e29, mu_other _ _ _ (by omega), r27 _ (by omega) (by omega), s23, r18 454 (by omega)]
        · rw [e30, mu_other _ _ _ (by omega), e29, mu_other _ _ _ (by omega), r27 _ (by omega) (by omega), (t23 i hi).1, r18 (454 + 1) (by omega)]
        · rw [e30, mu_other _ _ _ (by omega), e29, mu_other _ _ _ (by omega), r27 _ (by omega) (by omega), (t23 i hi).2, r18 (454 + 2) (by omega)]
        · refine x27.tr ?_ ?_
          · rw [e30, mu_other _ _ _ (by omega), e29, mu_other _ _ _ (by omega)]
          · rw [e30, mu_other _ _ _ (by omega), e29, mu_other _ _ _ (by omega)]
      | succ m ih =>
        intro k I J hk hXI hxI hf hn
        obtain ⟨hw, hgg⟩ := hGk k (by omega)
        apply c109
        unfold wp_F_propose_109
        rw [hXI.pc]
        refine ⟨fun z => absurd z (nI_ge (by omega) (by omega)), fun _ => ⟨S, ⟨hXI, ⟨k, by omega, rfl⟩, ⟨p, hp0, rfl⟩, ⟨s, hs1, hs, rfl⟩, ⟨_, hxI, by rw [es]; exact hgg⟩⟩, fun r33 I34 J35 hq => ?_⟩⟩
        obtain ⟨rfl, f1, f2, f3⟩ := hq
        have f3 := f3 _ hxI hw (by rw [es]; exact hgg)
        rw [show cN (nI p) = p from ep, es, cN_nI (n := k) (by omega)] at f3
        have hX34 : XR S I34 J35 := hXI.dr (fun j hj => f1 j (by omega) (by omega)) rfl
        refine ⟨fun z => ?_, fun z => ?_⟩
        · have fit : gFit S (gPre S p s k) p s (zNi S k) := nn (fun y => z (f3.2 y))
          have nbk : gBad S p s k = false := by
            unfold gBad
            rw [@decide_eq_true _ (Classical.propDecidable _) fit]
            rfl
          rw [nI_1]
          refine ih (k + 1) I34 J35 (by omega) hX34 ?_ (fun i hi => hf i (by rw [fst_f nbk]; exact hi)) (fun hi => hn (by rw [fst_f nbk]; exact hi))
          exact (f3.1 fit).2
        · have nfit : ¬ gFit S (gPre S p s k) p s (zNi S k) := fun y => by
            rw [(f3.1 y).1] at z
            exact absurd z (by decide)
          have bk : gBad S p s k = true := by
            unfold gBad
            rw [@decide_eq_false _ (Classical.propDecidable _) nfit]
            rfl
          exact hf k (fst_t bk) _ _ hX34
    refine key (zPc S) 0 I13 J14 (by omega) hX13 x13 (fun i hi I' J' hh => hR _ _ _ ?_) (fun hi I' J' hh => hR _ _ _ ?_)
    · rw [hi]
      exact ⟨rfl, hh⟩
    · rw [hi]
      exact ⟨rfl, hh⟩
  · rw [nI_leI (by omega) (by omega)] at h4
    have h7 : zBc S = 60 := by
      have : ¬ zBc S < 60 := fun z => h6 ((nI_ltI (b := 60) (by omega) (by omega)).mpr z)
      omega
    rw [if_neg (fun q => q.elim (fun z => h4 z) (fun z => by rw [bz_0.mp h5] at z; exact absurd z (by decide))), if_pos h7]
    exact ⟨rfl, hX⟩
  · rw [if_pos (Or.inr (bz_n0.mp h5))]
    exact ⟨rfl, hX⟩
set_option maxHeartbeats 4000000 in
set_option maxRecDepth 100000 in
theorem C_F_propose (l : Launch) (D : va_G) (ca : Nat → Nat) (ad : Nat → Nat) (S : mI) (I0 : mI) (J0 : mJ) (a1 : Int32) (a2 : Int32)  (hp : pX2 S I0 J0 a1 a2) : Met l yF_propose wF_propose ({ frames := 4, cells := 0, slots := 0, locals := 94 } : Room) (va_Pc [.ref (ad 0), .int a1, .int a2] (mPre D vwCl (xty ca) 459 ad (xmk ca ad) nL I0 J0)) (mQi D vwCl 459 ad (xmk ca ad) (qF_propose S I0 J0 a1 a2)) 0 0 (mA 459 ad) := by
  refine Met.ofW (cc := cF_propose) (maxL := 6) (ret := (some .int)) (by decide) rfl ?_
  intro p e s m args below meth c s₁ B hml hv
  obtain ⟨rfl, hP, hK, hD0, hN⟩ := hv
  have hx := B.exec
  have hb := B.bytes
  have hr := B.returns
  have htb : ∀ w ∈ wb, w.before _ s = true := fun w h => atoms_spec (ws := wF_propose) B.pre w (List.mem_cons_of_mem _ h)
  have hown : s.vm.findClass RF = some m.cls := findClass_of_methodNamed B.named
  have hlk := B.notSynchronized
  have hD := mw_Dm hD0
  have hS : va_S (mA 459 ad) s.heap s.heap [] := va_S.rf
  have hl := lv_entry ([.ref (ad 0), .int a1, .int a2]) (n := 6) (Nat.le_of_ble_eq_true rfl)
  rw [lg_entry_eq]
  generalize (lg_sl ([.ref (ad 0), .int a1, .int a2]) ++ List.replicate (6 - (lg_sl ([.ref (ad 0), .int a1, .int a2])).length) Slot.unset).toArray = ls at hl ⊢
  have hl : lv_has ls 6 [(0, .ref (ad 0)), (1, .int a1), (2, .int a2)] := hl
  obtain ⟨K109, hK109⟩ : ∃ K : mI → mJ → Int32 → Int32 → Prop, K = (fun I J x3 x5 => ∀ (H : Heap) (locs : List Loc) (ls : Array Slot), va_P D vwCl (mw 459 ad (xmk ca ad) I J) H → va_S (mA 459 ad) s.heap H locs → lv_has ls 6 [(0, .ref (ad 0)), (1, .int a1), (2, .int a2), (3, .int x3), (5, .int x5)] → W p l e (headSpec wF_propose ({ frames := 4, cells := 0, slots := 0, locals := 94 } : Room)).room s m (([.ref (ad 0), .int a1, .int a2] : List Value).toArray) below meth c H locs 0 0 (MQ below (mQi D vwCl 459 ad (xmk ca ad) (qF_propose S I0 J0 a1 a2)) (([.ref (ad 0), .int a1, .int a2] : List Value).toArray) s 0 0 (mA 459 ad)) (F0 m 109 ls [])) := ⟨_, rfl⟩
  have c109 : ∀ (I : mI) (J : mJ) (x3 : Int32) (x5 : Int32), wp_F_propose_109 K109 (qF_propose S I0 J0 a1 a2) I J a1 a2 x3 x5 → K109 I J x3 x5 := by
    intro I J x3 x5 h
    rw [hK109]
    intro H locs ls hP hS hl
    unfold wp_F_propose_109 at h
    refine lv_iload hx hb dF_propose_109 (lv_at hl 4 rfl) ?_
    refine lv_aload_n hx hb dF_propose_111 rfl (lv_at hl 0 rfl) ?_
    refine va_get (D := D) (ci := 5) (v := .ref (ad 454)) (C := RF) (T := TF) (N := 11) hx hb htb inF hown hK hP 0 (mw_at (xk_lt (show xk 0 = 0 from rfl) (by decide)) (xm_F (show xk 0 = 0 from rfl) _ _)) rfl 9 (by decide) (htb _ k1_171) (fun _ h9 => h9) rfl dF_propose_112 ?_
    refine va_get (D := D) (ci := 1) (v := .int (I 454 2)) (C := RI) (T := TI) (N := 3) hx hb htb inI hown hK hP 454 (mw_at (xk_lt (show xk 454 = 4 from rfl) (by decide)) (xm_I (show xk 454 = 4 from rfl) _ _)) rfl 2 (by decide) (htb _ k1_42) (fun _ h9 => h9) rfl dF_propose_115 ?_
    refine lv_icmp_ge (tgt := 144) hx hb dF_propose_118 (by decide) (fun hc => ?_) (fun hc => ?_)
    · have h := h.1 hc
      refine lv_aload_n hx hb dF_propose_144 rfl (lv_at hl 0 rfl) ?_
      refine va_get (D := D) (ci := 5) (v := .ref (ad 2)) (C := RF) (T := TF) (N := 11) hx hb htb inF hown hK hP 0 (mw_at (xk_lt (show xk 0 = 0 from rfl) (by decide)) (xm_F (show xk 0 = 0 from rfl) _ _)) rfl 4 (by decide) (htb _ k1_166) (fun _ h9 => h9) rfl dF_propose_145 ?_
      refine lv_aload_n hx hb dF_propose_148 rfl (lv_at hl 0 rfl) ?_
      refine va_get (D := D) (ci := 5) (v := .int (I 0 5)) (C := RF) (T := TF) (N := 11) hx hb htb inF hown hK hP 0 (mw_at (xk_lt (show xk 0 = 0 from rfl) (by decide)) (xm_F (show xk 0 = 0 from rfl) _ _)) rfl 5 (by decide) (htb _ k1_167) (fun _ h9 => h9) rfl dF_propose_149 ?_
      obtain ⟨hn15, h⟩ := h
      refine mr_aald hx hb hK hP 2 2 (xk_lt (show xk 2 = 2 from rfl) (by decide)) (xm_BA (show xk 2 = 2 from rfl) _ _) rfl hn15 dF_propose_152 ?_
      refine lv_astore (lv' := [(5, .ref (ad (3 + 6 * (I 0 5).toNatClampNeg))), (0, .ref (ad 0)), (1, .int a1), (2, .int a2), (3, .int x3)]) hx hb dF_propose_153 hl (by decide) rfl (fun ls hl => ?_)
      refine lv_aload hx hb dF_propose_155 (lv_at hl 0 rfl) ?_
      refine lv_iload_n hx hb dF_propose_157 rfl (lv_at hl 2 rfl) ?_
      refine mr_puti hx hb htb inB tyB tyB_ok nmB hown hK hP hD hS (3 + 6 * (I 0 5).toNatClampNeg) (xk_lt (xk_B hn15) (by decide)) (xm_B (xk_B hn15) _ _) rfl 0 (by decide) (htb _ k1_84) (fun _ h9 => h9) rfl (by decide +kernel) (Nat.le_of_ble_eq_true rfl) (xm_B (xk_B hn15) _ _) dF_propose_158 (fun H locs hP hS => ?_)
      generalize heI16 : mu I (3 + 6 * (I 0 5).toNatClampNeg) 0 a1 = I16 at hP
      have h := h I16 heI16.symm
      refine lv_aload hx hb dF_propose_161 (lv_at hl 0 rfl) ?_
      refine lv_iload_n hx hb dF_propose_163 rfl (lv_at hl 3 rfl) ?_
      refine mr_puti hx hb htb inB tyB tyB_ok nmB hown hK hP hD hS (3 + 6 * (I 0 5).toNatClampNeg) (xk_lt (xk_B hn15) (by decide)) (xm_B (xk_B hn15) _ _) rfl 1 (by decide) (htb _ k1_85) (fun _ h9 => h9) rfl (by decide +kernel) (Nat.le_of_ble_eq_true rfl) (xm_B (xk_B hn15) _ _) dF_propose_164 (fun H locs hP hS => ?_)
      generalize heI17 : mu I16 (3 + 6 * (I 0 5).toNatClampNeg) 1 a2 = I17 at hP
      have h := h I17 heI17.symm
      refine lv_aload hx hb dF_propose_167 (lv_at hl 0 rfl) ?_
      refine lv_iload_n hx hb dF_propose_169 rfl (lv_at hl 4 rfl) ?_
      refine mr_puti hx hb htb inB tyB tyB_ok nmB hown hK hP hD hS (3 + 6 * (I 0 5).toNatClampNeg) (xk_lt (xk_B hn15) (by decide)) (xm_B (xk_B hn15) _ _) rfl 2 (by decide) (htb _ k1_86) (fun _ h9 => h9) rfl (by decide +kernel) (Nat.le_of_ble_eq_true rfl) (xm_B (xk_B hn15) _ _) dF_propose_170 (fun H locs hP hS => ?_)
      generalize heI18 : mu I17 (3 + 6 * (I 0 5).toNatClampNeg) 2 x3 = I18 at hP
      have h := h I18 heI18.symm
      refine lv_aload hx hb dF_propose_173 (lv_at hl 0 rfl) ?_
      refine lv_aload_n hx hb dF_propose_175 rfl (lv_at hl 1 rfl) ?_
      refine va_get (D := D) (ci := 5) (v := .ref (ad 2)) (C := RF) (T := TF) (N := 11) hx hb htb inF hown hK hP 0 (mw_at (xk_lt (show xk 0 = 0 from rfl) (by decide)) (xm_F (show xk 0 = 0 from rfl) _ _)) rfl 4 (by decide) (htb _ k1_166) (fun _ h9 => h9) rfl dF_propose_176 ?_
      refine lv_iload_n hx hb dF_propose_179 rfl (lv_at hl 2 rfl) ?_
      obtain ⟨hn19, h⟩ := h
      refine mr_aald hx hb hK hP 2 2 (xk_lt (show xk 2 = 2 from rfl) (by decide)) (xm_BA (show xk 2 = 2 from rfl) _ _) rfl hn19 dF_propose_180 ?_
      refine va_get (D := D) (ci := 0) (v := .long (J (3 + 6 * a1.toNatClampNeg) 3)) (C := RB) (T := TB) (N := 6) hx hb htb inB hown hK hP (3 + 6 * a1.toNatClampNeg) (mw_at (xk_lt (xk_B hn19) (by decide)) (xm_B (xk_B hn19) _ _)) rfl 3 (by decide) (htb _ k1_88) (fun _ h9 => h9) rfl dF_propose_181 ?_
      refine lv_lconst (v := 1) hx hb dF_propose_184 (by decide) ?_
      refine lv_aload_n hx hb dF_propose_185 rfl (lv_at hl 1 rfl) ?_
      refine va_get (D := D) (ci := 5) (v := .int (I18 0 5)) (C := RF) (T := TF) (N := 11) hx hb htb inF hown hK hP 0 (mw_at (xk_lt (show xk 0 = 0 from rfl) (by decide)) (xm_F (show xk 0 = 0 from rfl) _ _)) rfl 5 (by decide) (htb _ k1_167) (fun _ h9 => h9) rfl dF_propose_186 ?_
      refine lv_lshl (v := (1 : Int64) <<< ((I18 0 5).toInt64 &&& 63)) hx hb dF_propose_189 rfl ?_
      refine lv_lor hx hb dF_propose_190 ?_
      refine mr_putl hx hb htb inB tyB tyB_ok nmB hown hK hP hD hS (3 + 6 * (I 0 5).toNatClampNeg) (xk_lt (xk_B hn15) (by decide)) (xm_B (xk_B hn15) _ _) rfl 3 (by decide) (htb _ k1_88) (fun _ h9 => h9) rfl (by decide +kernel) (Nat.le_of_ble_eq_true rfl) (xm_B (xk_B hn15) _ _) dF_propose_191 (fun H locs hP hS => ?_)
      generalize heJ20 : mul J (3 + 6 * (I 0 5).toNatClampNeg) 3 ((J (3 + 6 * a1.toNatClampNeg) 3) ||| ((1 : Int64) <<< ((I18 0 5).toInt64 &&& 63))) = J20 at hP
      have h := h J20 heJ20.symm
      refine lv_aload hx hb dF_propose_194 (lv_at hl 0 rfl) ?_
      refine va_get (D := D) (ci := 0) (v := .ref (ad ((3 + 6 * (I 0 5).toNatClampNeg) + 1))) (C := RB) (T := TB) (N := 6) hx hb htb inB hown hK hP (3 + 6 * (I 0 5).toNatClampNeg) (mw_at (xk_lt (xk_B hn15) (by decide)) (xm_B (xk_B hn15) _ _)) rfl 4 (by decide) (htb _ k1_90) (fun _ h9 => h9) rfl dF_propose_196 ?_
      refine lv_aload_n hx hb dF_propose_199 rfl (lv_at hl 1 rfl) ?_
      refine va_get (D := D) (ci := 5) (v := .ref (ad 454)) (C := RF) (T := TF) (N := 11) hx hb htb inF hown hK hP 0 (mw_at (xk_lt (show xk 0 = 0 from rfl) (by decide)) (xm_F (show xk 0 = 0 from rfl) _ _)) rfl 9 (by decide) (htb _ k1_171) (fun _ h9 => h9) rfl dF_propose_200 ?_
      refine mc_v (va_runV (As := [.ref (ad 454)]) (rest := []) ⟨hx, hb, hml, hown, htb⟩ (C_I_copyFrom l D ca ad I18 J20 ((3 + 6 * (I 0 5).toNatClampNeg) + 1) 454 (xk_BI (xk_B hn15)) (show xk 454 = 4 from rfl)) (cwV 1 htb (gd_v k2_63 k2_64 k2_65 k1_4 k2_66) rfl rfl rfl (by decide +kernel) ⟨Nat.le_of_ble_eq_true rfl, Nat.le_of_ble_eq_true rfl⟩) (mPre_V hK hP hD hN rfl (mw_at (xk_lt (xk_BI (xk_B hn15)) (by decide)) (xm_I (xk_BI (xk_B hn15)) _ _))) rfl rfl hl.1 rfl (lv_room (Nat.le_of_ble_eq_true rfl)) dF_propose_203 ⟨Nat.le_of_ble_eq_true rfl, Nat.le_of_ble_eq_true rfl⟩) hS (fun I23 J24 H locs hpost hP hS => ?_)
      have h := h I23 J24 hpost
      refine lv_aload hx hb dF_propose_206 (lv_at hl 0 rfl) ?_
      refine va_get (D := D) (ci := 0) (v := .ref (ad ((3 + 6 * (I 0 5).toNatClampNeg) + 4))) (C := RB) (T := TB) (N := 6) hx hb htb inB hown hK hP (3 + 6 * (I 0 5).toNatClampNeg) (mw_at (xk_lt (xk_B hn15) (by decide)) (xm_B (xk_B hn15) _ _)) rfl 5 (by decide) (htb _ k1_92) (fun _ h9 => h9) rfl dF_propose_208 ?_
      refine lv_aload_n hx hb dF_propose_211 rfl (lv_at hl 1 rfl) ?_
      refine va_get (D := D) (ci := 5) (v := .ref (ad 457)) (C := RF) (T := TF) (N := 11) hx hb htb inF hown hK hP 0 (mw_at (xk_lt (show xk 0 = 0 from rfl) (by decide)) (xm_F (show xk 0 = 0 from rfl) _ _)) rfl 10 (by decide) (htb _ k1_172) (fun _ h9 => h9) rfl dF_propose_212 ?_
      refine mc_v (va_runV (As := [.ref (ad 457)]) (rest := []) ⟨hx, hb, hml, hown, htb⟩ (C_S_copyFrom l D ca ad I23 J24 ((3 + 6 * (I 0 5).toNatClampNeg) + 4) 457 (xk_BS (xk_B hn15)) (show xk 457 = 6 from rfl)) (cwV 1 htb (gd_v k2_22 k2_23 k2_24 k1_5 k2_25) rfl rfl rfl (by decide +kernel) ⟨Nat.le_of_ble_eq_true rfl, Nat.le_of_ble_eq_true rfl⟩) (mPre_V hK hP hD hN rfl (mw_at (xk_lt (xk_BS (xk_B hn15)) (by decide)) (xm_S (xk_BS (xk_B hn15)) _ _))) rfl rfl hl.1 rfl (lv_room (Nat.le_of_ble_eq_true rfl)) dF_propose_215 ⟨Nat.le_of_ble_eq_true rfl, Nat.le_of_ble_eq_true rfl⟩) hS (fun I27 J28 H locs hpost hP hS => ?_)
      have h := h I27 J28 hpost
      refine lv_aload_n hx hb dF_propose_218 rfl (lv_at hl 1 rfl) ?_
      refine va_get (D := D) (ci := 5) (v := .ref (ad 454)) (C := RF) (T := TF) (N := 11) hx hb htb inF hown hK hP 0 (mw_at (xk_lt (show xk 0 = 0 from rfl) (by decide)) (xm_F (show xk 0 = 0 from rfl) _ _)) rfl 9 (by decide) (htb _ k1_171) (fun _ h9 => h9) rfl dF_propose_219 ?_
      refine lv_iconst (v := 0) hx hb dF_propose_222 (by decide) ?_
      refine mr_puti hx hb htb inI tyI tyI_ok nmI hown hK hP hD hS 454 (xk_lt (show xk 454 = 4 from rfl) (by decide)) (xm_I (show xk 454 = 4 from rfl) _ _) rfl 2 (by decide) (htb _ k1_42) (fun _ h9 => h9) rfl (by decide +kernel) (Nat.le_of_ble_eq_true rfl) (xm_I (show xk 454 = 4 from rfl) _ _) dF_propose_223 (fun H locs hP hS => ?_)
      generalize heI29 : mu I27 454 2 0 = I29 at hP
      have h := h I29 heI29.symm
      refine lv_aload_n hx hb dF_propose_226 rfl (lv_at hl 1 rfl) ?_
      refine lv_dup hx hb dF_propose_227 rfl ?_
      refine va_get (D := D) (ci := 5) (v := .int (I29 0 5)) (C := RF) (T := TF) (N := 11) hx hb htb inF hown hK hP 0 (mw_at (xk_lt (show xk 0 = 0 from rfl) (by decide)) (xm_F (show xk 0 = 0 from rfl) _ _)) rfl 5 (by decide) (htb _ k1_167) (fun _ h9 => h9) rfl dF_propose_228 ?_
      refine lv_dup_x1 hx hb dF_propose_231 rfl rfl ?_
      refine lv_iconst (v := 1) hx hb dF_propose_232 (by decide) ?_
      refine lv_iadd hx hb dF_propose_233 ?_
      refine mr_puti hx hb htb inF tyF tyF_ok nmF hown hK hP hD hS 0 (xk_lt (show xk 0 = 0 from rfl) (by decide)) (xm_F (show xk 0 = 0 from rfl) _ _) rfl 5 (by decide) (htb _ k1_167) (fun _ h9 => h9) rfl (by decide +kernel) (Nat.le_of_ble_eq_true rfl) (xm_F (show xk 0 = 0 from rfl) _ _) dF_propose_234 (fun H locs hP hS => ?_)
      generalize heI30 : mu I29 0 5 ((I29 0 5) + 1) = I30 at hP
      have h := h I30 heI30.symm
      exact me_i hx hb hr hlk hP hS h dF_propose_237
    · have h := h.2 hc
      refine lv_aload_n hx hb dF_propose_121 rfl (lv_at hl 0 rfl) ?_
      refine lv_iload hx hb dF_propose_122 (lv_at hl 4 rfl) ?_
      refine lv_iload_n hx hb dF_propose_124 rfl (lv_at hl 1 rfl) ?_
      refine lv_iload_n hx hb dF_propose_125 rfl (lv_at hl 2 rfl) ?_
      obtain ⟨S31, h⟩ := h
      obtain ⟨hp32, h⟩ := h
      refine mc_i (va_runV (As := [.int x5, .int a1, .int a2]) (rest := []) ⟨hx, hb, hml, hown, htb⟩ (C_F_takeItem l D ca ad S31 I J x5 a1 a2 hp32) (cwV 3 htb (gd_v k2_34 k2_36 ks7 k1_1 k2_37) rfl rfl rfl (by decide +kernel) ⟨Nat.le_of_ble_eq_true rfl, Nat.le_of_ble_eq_true rfl⟩) (mPre_V hK hP hD hN rfl (mw_at (xk_lt (show xk 0 = 0 from rfl) (by decide)) (xm_F (show xk 0 = 0 from rfl) _ _))) rfl rfl hl.1 rfl (lv_room (Nat.le_of_ble_eq_true rfl)) dF_propose_126 ⟨Nat.le_of_ble_eq_true rfl, Nat.le_of_ble_eq_true rfl⟩) hS (fun r33 I34 J35 H locs hpost hP hS => ?_)
      have h := h r33 I34 J35 hpost
      refine lv_if_ne (tgt := 138) hx hb dF_propose_129 (by decide) (fun hc => ?_) (fun hc => ?_)
      · have h := h.1 hc
        refine lv_iinc (k := 4) (v := x5 + 1) (lv' := [(5, .int (x5 + 1)), (0, .ref (ad 0)), (1, .int a1), (2, .int a2), (3, .int x3)]) hx hb dF_propose_138 hl rfl (by rfl) (by decide) rfl (fun ls hl => ?_)
        refine lv_goto (tgt := 109) hx hb dF_propose_141 (by decide) ?_
        rw [hK109] at h
        exact h _ _ _ hP hS (lv_sub hl [1, 2, 3, 4, 0] rfl)
      · have h := h.2 hc
        refine lv_bipush (v := (-10)) hx hb dF_propose_132 (by decide) ?_
        refine lv_iload hx hb dF_propose_134 (lv_at hl 4 rfl) ?_
        refine lv_isub hx hb dF_propose_136 ?_
        exact me_i hx hb hr hlk hP hS h dF_propose_137
  have h := P_F_propose S I0 J0 a1 a2  hp K109 (qF_propose S I0 J0 a1 a2) c109 (fun _ _ _ h => h)
  unfold wp_F_propose at h
  refine lv_aload_n hx hb dF_propose_0 rfl (lv_at hl 0 rfl) ?_
  refine lv_iload_n hx hb dF_propose_1 rfl (lv_at hl 1 rfl) ?_
  refine mc_r (va_runV (As := [.int a1]) (rest := []) ⟨hx, hb, hml, hown, htb⟩ (C_F_isBlock l D ca ad I0 J0 a1) (cwV 1 htb (gd_v k1_204 k1_206 ks1 k1_1 k1_207) rfl rfl rfl (by decide +kernel) ⟨Nat.le_of_ble_eq_true rfl, Nat.le_of_ble_eq_true rfl⟩) (mPre_V hK hP hD hN rfl (mw_at (xk_lt (show xk 0 = 0 from rfl) (by decide)) (xm_F (show xk 0 = 0 from rfl) _ _))) rfl rfl hl.1 rfl (lv_room (Nat.le_of_ble_eq_true rfl)) dF_propose_2 ⟨Nat.le_of_ble_eq_true rfl, Nat.le_of_ble_eq_true rfl⟩) hS (fun H locs hP hS => ?_)
  refine lv_if_eq (tgt := 20) hx hb dF_propose_5 (by decide) (fun hc => ?_) (fun hc => ?_)
  · have h := h.1 hc
    refine lv_iconst (v := (-1)) hx hb dF_propose_20 (by decide) ?_
    exact me_i hx hb hr hlk hP hS h dF_propose_21
  · have h := h.2 hc
    refine lv_iload_n hx hb dF_propose_8 rfl (lv_at hl 2 rfl) ?_
    refine lv_iconst (v := 1) hx hb dF_propose_9 (by decide) ?_
    refine lv_icmp_lt (tgt := 20) hx hb dF_propose_10 (by decide) (fun hc => ?_) (fun hc => ?_)
    · have h := h.1 hc
      refine lv_iconst (v := (-1)) hx hb dF_propose_20 (by decide) ?_
      exact me_i hx hb hr hlk hP hS h dF_propose_21
    · have h := h.2 hc
      refine lv_iload_n hx hb dF_propose_13 rfl (lv_at hl 2 rfl) ?_
      refine lv_sipush (v := 240) hx hb dF_propose_14 (by decide) ?_
      refine lv_icmp_le (tgt := 22) hx hb dF_propose_17 (by decide) (fun hc => ?_) (fun hc => ?_)
      · have h := h.1 hc
        refine lv_iload_n hx hb dF_propose_22 rfl (lv_at hl 2 rfl) ?_
        refine lv_aload_n hx hb dF_propose_23 rfl (lv_at hl 0 rfl) ?_
        refine va_get (D := D) (ci := 5) (v := .int (I0 0 0)) (C := RF) (T := TF) (N := 11) hx hb htb inF hown hK hP 0 (mw_at (xk_lt (show xk 0 = 0 from rfl) (by decide)) (xm_F (show xk 0 = 0 from rfl) _ _)) rfl 0 (by decide) (htb _ k1_162) (fun _ h9 => h9) rfl dF_propose_24 ?_
        obtain ⟨hz2, h⟩ := h
        refine lv_irem hx hb dF_propose_27 hz2 ?_
        refine lv_istore_n (lv' := [(3, .int (a2 - a2 / (I0 0 0) * (I0 0 0))), (0, .ref (ad 0)), (1, .int a1), (2, .int a2)]) hx hb dF_propose_28 rfl hl (by decide) rfl (fun ls hl => ?_)
        refine lv_aload_n hx hb dF_propose_29 rfl (lv_at hl 1 rfl) ?_
        refine va_get (D := D) (ci := 5) (v := .ref (ad 2)) (C := RF) (T := TF) (N := 11) hx hb htb inF hown hK hP 0 (mw_at (xk_lt (show xk 0 = 0 from rfl) (by decide)) (xm_F (show xk 0 = 0 from rfl) _ _)) rfl 4 (by decide) (htb _ k1_166) (fun _ h9 => h9) rfl dF_propose_30 ?_
        refine lv_iload_n hx hb dF_propose_33 rfl (lv_at hl 2 rfl) ?_
        obtain ⟨hn3, h⟩ := h
        refine mr_aald hx hb hK hP 2 2 (xk_lt (show xk 2 = 2 from rfl) (by decide)) (xm_BA (show xk 2 = 2 from rfl) _ _) rfl hn3 dF_propose_34 ?_
        refine va_get (D := D) (ci := 0) (v := .ref (ad ((3 + 6 * a1.toNatClampNeg) + 4))) (C := RB) (T := TB) (N := 6) hx hb htb inB hown hK hP (3 + 6 * a1.toNatClampNeg) (mw_at (xk_lt (xk_B hn3) (by decide)) (xm_B (xk_B hn3) _ _)) rfl 5 (by decide) (htb _ k1_92) (fun _ h9 => h9) rfl dF_propose_35 ?_
        refine lv_astore (lv' := [(4, .ref (ad ((3 + 6 * a1.toNatClampNeg) + 4))), (3, .int (a2 - a2 / (I0 0 0) * (I0 0 0))), (0, .ref (ad 0)), (1, .int a1), (2, .int a2)]) hx hb dF_propose_38 hl (by decide) rfl (fun ls hl => ?_)
        refine lv_iload_n hx hb dF_propose_40 rfl (lv_at hl 4 rfl) ?_
        refine lv_aload_n hx hb dF_propose_41 rfl (lv_at hl 2 rfl) ?_
        refine va_get (D := D) (ci := 5) (v := .ref (ad 2)) (C := RF) (T := TF) (N := 11) hx hb htb inF hown hK hP 0 (mw_at (xk_lt (show xk 0 = 0 from rfl) (by decide)) (xm_F (show xk 0 = 0 from rfl) _ _)) rfl 4 (by decide) (htb _ k1_166) (fun _ h9 => h9) rfl dF_propose_42 ?_
        refine lv_iload_n hx hb dF_propose_45 rfl (lv_at hl 3 rfl) ?_
        obtain ⟨hn4, h⟩ := h
        refine mr_aald hx hb hK hP 2 2 (xk_lt (show xk 2 = 2 from rfl) (by decide)) (xm_BA (show xk 2 = 2 from rfl) _ _) rfl hn4 dF_propose_46 ?_
        refine va_get (D := D) (ci := 0) (v := .int (I0 (3 + 6 * a1.toNatClampNeg) 1)) (C := RB) (T := TB) (N := 6) hx hb htb inB hown hK hP (3 + 6 * a1.toNatClampNeg) (mw_at (xk_lt (xk_B hn4) (by decide)) (xm_B (xk_B hn4) _ _)) rfl 1 (by decide) (htb _ k1_85) (fun _ h9 => h9) rfl dF_propose_47 ?_
        refine lv_icmp_le (tgt := 65) hx hb dF_propose_50 (by decide) (fun hc => ?_) (fun hc => ?_)
        · have h := h.1 hc
          refine lv_bipush (v := (-3)) hx hb dF_propose_65 (by decide) ?_
          exact me_i hx hb hr hlk hP hS h dF_propose_67
        · have h := h.2 hc
          refine lv_aload hx hb dF_propose_53 (lv_at hl 0 rfl) ?_
          refine va_get (D := D) (ci := 3) (v := .int (I0 ((3 + 6 * a1.toNatClampNeg) + 4) 1)) (C := RS) (T := TS) (N := 7) hx hb htb inS hown hK hP ((3 + 6 * a1.toNatClampNeg) + 4) (mw_at (xk_lt (xk_BS (xk_B hn3)) (by decide)) (xm_S (xk_BS (xk_B hn3)) _ _)) rfl 1 (by decide) (htb _ k1_60) (fun _ h9 => h9) rfl dF_propose_55 ?_
          refine lv_iload_n hx hb dF_propose_58 rfl (lv_at hl 1 rfl) ?_
          refine mc_r (va_runS (As := [.int (I0 ((3 + 6 * a1.toNatClampNeg) + 4) 1), .int (a2 - a2 / (I0 0 0) * (I0 0 0))]) (rest := []) ⟨hx, hb, hml, hown, htb⟩ (C_F_isIn l D ca ad I0 J0 (I0 ((3 + 6 * a1.toNatClampNeg) + 4) 1) (a2 - a2 / (I0 0 0) * (I0 0 0))) (va_cwS 2 htb (gd_s k2_19 k2_20 k1_1 k2_21) rfl rfl rfl (by decide +kernel) ⟨Nat.le_of_ble_eq_true rfl, Nat.le_of_ble_eq_true rfl⟩) (mPre_S hK hP hD hN) rfl rfl hl.1 rfl (lv_room (Nat.le_of_ble_eq_true rfl)) dF_propose_59 ⟨Nat.le_of_ble_eq_true rfl, Nat.le_of_ble_eq_true rfl⟩) hS (fun H locs hP hS => ?_)
          refine lv_if_eq (tgt := 68) hx hb dF_propose_62 (by decide) (fun hc => ?_) (fun hc => ?_)
          · have h := h.1 hc
            refine lv_aload_n hx hb dF_propose_68 rfl (lv_at hl 2 rfl) ?_
            refine va_get (D := D) (ci := 5) (v := .int (I0 0 5)) (C := RF) (T := TF) (N := 11) hx hb htb inF hown hK hP 0 (mw_at (xk_lt (show xk 0 = 0 from rfl) (by decide)) (xm_F (show xk 0 = 0 from rfl) _ _)) rfl 5 (by decide) (htb _ k1_167) (fun _ h9 => h9) rfl dF_propose_69 ?_
            refine lv_bipush (v := 60) hx hb dF_propose_72 (by decide) ?_
            refine lv_icmp_lt (tgt := 80) hx hb dF_propose_74 (by decide) (fun hc => ?_) (fun hc => ?_)
            · have h := h.1 hc
              refine lv_aload_n hx hb dF_propose_80 rfl (lv_at hl 2 rfl) ?_
              refine va_get (D := D) (ci := 5) (v := .ref (ad 457)) (C := RF) (T := TF) (N := 11) hx hb htb inF hown hK hP 0 (mw_at (xk_lt (show xk 0 = 0 from rfl) (by decide)) (xm_F (show xk 0 = 0 from rfl) _ _)) rfl 10 (by decide) (htb _ k1_172) (fun _ h9 => h9) rfl dF_propose_81 ?_
              refine lv_aload hx hb dF_propose_84 (lv_at hl 0 rfl) ?_
              refine mc_v (va_runV (As := [.ref (ad ((3 + 6 * a1.toNatClampNeg) + 4))]) (rest := []) ⟨hx, hb, hml, hown, htb⟩ (C_S_copyFrom l D ca ad I0 J0 457 ((3 + 6 * a1.toNatClampNeg) + 4) (show xk 457 = 6 from rfl) (xk_BS (xk_B hn3))) (cwV 1 htb (gd_v k2_22 k2_23 k2_24 k1_5 k2_25) rfl rfl rfl (by decide +kernel) ⟨Nat.le_of_ble_eq_true rfl, Nat.le_of_ble_eq_true rfl⟩) (mPre_V hK hP hD hN rfl (mw_at (xk_lt (show xk 457 = 6 from rfl) (by decide)) (xm_S (show xk 457 = 6 from rfl) _ _))) rfl rfl hl.1 rfl (lv_room (Nat.le_of_ble_eq_true rfl)) dF_propose_86 ⟨Nat.le_of_ble_eq_true rfl, Nat.le_of_ble_eq_true rfl⟩) hS (fun I8 J9 H locs hpost hP hS => ?_)
              have h := h I8 J9 hpost
              refine lv_aload_n hx hb dF_propose_89 rfl (lv_at hl 2 rfl) ?_
              refine va_get (D := D) (ci := 5) (v := .ref (ad 457)) (C := RF) (T := TF) (N := 11) hx hb htb inF hown hK hP 0 (mw_at (xk_lt (show xk 0 = 0 from rfl) (by decide)) (xm_F (show xk 0 = 0 from rfl) _ _)) rfl 10 (by decide) (htb _ k1_172) (fun _ h9 => h9) rfl dF_propose_90 ?_
              refine lv_iload_n hx hb dF_propose_93 rfl (lv_at hl 4 rfl) ?_
              refine lv_aload_n hx hb dF_propose_94 rfl (lv_at hl 2 rfl) ?_
              refine va_get (D := D) (ci := 5) (v := .int (I8 0 1)) (C := RF) (T := TF) (N := 11) hx hb htb inF hown hK hP 0 (mw_at (xk_lt (show xk 0 = 0 from rfl) (by decide)) (xm_F (show xk 0 = 0 from rfl) _ _)) rfl 1 (by decide) (htb _ k1_163) (fun _ h9 => h9) rfl dF_propose_95 ?_
              obtain ⟨hz10, h⟩ := h
              refine lv_idiv hx hb dF_propose_98 hz10 ?_
              refine lv_aload_n hx hb dF_propose_99 rfl (lv_at hl 2 rfl) ?_
              refine va_get (D := D) (ci := 5) (v := .int (I8 0 0)) (C := RF) (T := TF) (N := 11) hx hb htb inF hown hK hP 0 (mw_at (xk_lt (show xk 0 = 0 from rfl) (by decide)) (xm_F (show xk 0 = 0 from rfl) _ _)) rfl 0 (by decide) (htb _ k1_162) (fun _ h9 => h9) rfl dF_propose_100 ?_
              obtain ⟨hp11, h⟩ := h
              refine mc_v (va_runV (As := [.int (a2 / (I8 0 1)), .int (I8 0 0)]) (rest := []) ⟨hx, hb, hml, hown, htb⟩ (C_S_passTo l D ca ad I8 J9 457 (a2 / (I8 0 1)) (I8 0 0) (show xk 457 = 6 from rfl) hp11) (cwV 2 htb (gd_v k2_29 k2_30 k2_31 k1_5 k2_32) rfl rfl rfl (by decide +kernel) ⟨Nat.le_of_ble_eq_true rfl, Nat.le_of_ble_eq_true rfl⟩) (mPre_V hK hP hD hN rfl (mw_at (xk_lt (show xk 457 = 6 from rfl) (by decide)) (xm_S (show xk 457 = 6 from rfl) _ _))) rfl rfl hl.1 rfl (lv_room (Nat.le_of_ble_eq_true rfl)) dF_propose_103 ⟨Nat.le_of_ble_eq_true rfl, Nat.le_of_ble_eq_true rfl⟩) hS (fun I13 J14 H locs hpost hP hS => ?_)
              have h := h I13 J14 hpost
              refine lv_iconst (v := 0) hx hb dF_propose_106 (by decide) ?_
              refine lv_istore (lv' := [(5, .int 0), (4, .ref (ad ((3 + 6 * a1.toNatClampNeg) + 4))), (3, .int (a2 - a2 / (I0 0 0) * (I0 0 0))), (0, .ref (ad 0)), (1, .int a1), (2, .int a2)]) hx hb dF_propose_107 hl (by decide) rfl (fun ls hl => ?_)
              rw [hK109] at h
              exact h _ _ _ hP hS (lv_sub hl [3, 4, 5, 2, 0] rfl)
            · have h := h.2 hc
              refine lv_bipush (v := (-2)) hx hb dF_propose_77 (by decide) ?_
              exact me_i hx hb hr hlk hP hS h dF_propose_79
          · have h := h.2 hc
            refine lv_bipush (v := (-3)) hx hb dF_propose_65 (by decide) ?_
            exact me_i hx hb hr hlk hP hS h dF_propose_67
      · have h := h.2 hc
        refine lv_iconst (v := (-1)) hx hb dF_propose_20 (by decide) ?_
        exact me_i hx hb hr hlk hP hS h dF_propose_21
