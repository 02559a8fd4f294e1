def pX0 (S I : mI) (J : mJ) : Prop := XR S I J
def pI_append (I : mI) (_ : mJ) (j : Nat) (_ _ : Int32) : Prop := ¬ I j 2 < 0
def qI_append (I : mI) (J : mJ) (j : Nat) (a b : Int32) (r : Int32) (I' : mI) (J' : mJ) : Prop := J' = J ∧ ((¬ I j 2 < 4 ∧ r = -2 ∧ I' = I) ∨ (I j 2 < 4 ∧ r = I j 2 + 1 ∧ I' = mu (mu (mu I (j + 1) (cN (I j 2)) a) (j + 2) (cN (I j 2)) b) j 2 (I j 2 + 1)))
theorem app_X {S I I' : mI} {J J' : mJ} (h : XR S I J) {x a b r : Int32} (hx : wIt S x) (he : encIt x a b) (hq : qI_append I J 454 a b r I' J') : r = (oApp S x).1 ∧ XR (oApp S x).2 I' J' := by
  have hb := h.1.b
  obtain ⟨rfl, hq⟩ := hq
  rw [h.pc] at hq
  have c4 : nI (zPc S) < 4 ↔ zPc S < 4 := nI_ltI (b := 4) (by omega) (by omega)
  unfold oApp
  rcases hq with ⟨h1, rfl, rfl⟩ | ⟨h1, rfl, hI⟩
  · have e : zPc S = 4 := by
      have : ¬ zPc S < 4 := fun z => h1 (c4.mpr z)
      omega
    rw [if_pos e]
    exact ⟨rfl, h⟩
  · have e := c4.mp h1
    rw [if_neg (by omega)]
    rw [cN_nI (by omega), nI_1] at hI
    exact ⟨nI_1 _, h.app e hx he hI⟩
def qF_include (S _I : mI) (_ : mJ) (a : Int32) (r : Int32) (I' : mI) (J' : mJ) : Prop := r = (oInc S a).1 ∧ XR (oInc S a).2 I' J'
def qF_accuse (S _I : mI) (_ : mJ) (a b : Int32) (r : Int32) (I' : mI) (J' : mJ) : Prop := r = (oAcc S a b).1 ∧ XR (oAcc S a b).2 I' J'
def qF_clear (S _I : mI) (_ : mJ) (r : Int32) (I' : mI) (J' : mJ) : Prop := r = (oClr S).1 ∧ XR (oClr S).2 I' J'
def iK (j : Nat) : Prop := ∃ n, n < 3 ∧ j = 445 + 3 * n
def pF_takeInVote (S I : mI) (J : mJ) (j : Nat) (a : Int32) : Prop := XR S I J ∧ iK j ∧ iV S a
def qF_takeInVote (S _I : mI) (_ : mJ) (j : Nat) (a : Int32) (I' : mI) (J' : mJ) : Prop := XR (zHear S (iN j) (cN a)) I' J'
def iBk (j : Nat) : Nat := (j - 4) / 6
theorem iBk_b (b : Nat) : iBk (3 + 6 * b + 1) = b := by unfold iBk; omega
def iBs (j : Nat) : Nat := (j - 7) / 6
theorem iBs_b (b : Nat) : iBs (3 + 6 * b + 4) = b := by unfold iBs; omega
def pF_takeInVotes (S I : mI) (J : mJ) (j k : Nat) : Prop := XR S I J ∧ iK j ∧ ∃ b, b < zBc S ∧ k = 3 + 6 * b + 1
def qF_takeInVotes (S _I : mI) (_ : mJ) (j k : Nat) (I' : mI) (J' : mJ) : Prop := XR (zItems S (iN j) (iBk k) (zIc S (iBk k))) I' J'
def pF_forgetBeside (S I : mI) (J : mJ) (j : Nat) (a : Int32) : Prop := XR S I J ∧ iK j ∧ iB S a
def qF_forgetBeside (S I : mI) (_ : mJ) (j : Nat) (a : Int32) (I' : mI) (J' : mJ) : Prop := I' = I ∧ XR (zFor S (iN j) (cN a)) I' J'
def pF_takeInCheckpoints (S I : mI) (J : mJ) (j k : Nat) : Prop := XR S I J ∧ iK j ∧ ∃ b, b < zBc S ∧ k = 3 + 6 * b + 4
def qF_takeInCheckpoints (S _I : mI) (_ : mJ) (j k : Nat) (I' : mI) (J' : mJ) : Prop := XR (zTake S (iN j) (iBs k)) I' J'
def qF_give (S _I : mI) (_ : mJ) (a b : Int32) (r : Int32) (I' : mI) (J' : mJ) : Prop := r = (oGiv S a b).1 ∧ XR (oGiv S a b).2 I' J'
def qF_hear (S _I : mI) (_ : mJ) (a b : Int32) (r : Int32) (I' : mI) (J' : mJ) : Prop := r = (oHea S a b).1 ∧ XR (oHea S a b).2 I' J'
theorem zItem_row (S : mI) (n x : Nat) {j : Nat} (hj : j ≠ 15) : zItem S n x j = S j := by
  unfold zItem zHear
  by_cases h : x < 100
  · rw [if_pos h]; exact mu_other _ _ _ hj
  · rw [if_neg h, mu_other _ _ _ hj]; exact mu_other _ _ _ hj
theorem zItems_row (S : mI) (n b : Nat) : ∀ (k : Nat) {j : Nat}, j ≠ 15 → zItems S n b k j = S j := by
  intro k
  induction k with
  | zero => intro j _; rfl
  | succ k ih =>
    intro j hj
    simp only [zItems]
    rw [zItem_row _ _ _ hj]
    exact ih hj
/-- the first k blocks beside r are forgotten by n -/
def zFk (S : mI) (n r k : Nat) : mI := mrow S 14 (fun q => if 60 * n ≤ q ∧ q < 60 * n + k ∧ zD S (q - 60 * n) r = false then 0 else S 14 q)
theorem zFk_row (S : mI) (n r k : Nat) {j : Nat} (hj : j ≠ 14) : zFk S n r k j = S j := mrow_other _ _ hj
theorem zFk_0 (S : mI) (n r : Nat) : zFk S n r 0 = S := by
  funext j
  by_cases h : j = 14
  · subst h
    unfold zFk
    rw [mrow_self]
    funext q
    rw [if_neg (fun z => by omega)]
  · exact zFk_row S n r 0 h
theorem zFk_keep (S : mI) (n r k : Nat) (h : zD S k r = true) : zFk S n r (k + 1) = zFk S n r k := by
  unfold zFk
  congr 1
  funext q
  by_cases c : 60 * n ≤ q ∧ q < 60 * n + k ∧ zD S (q - 60 * n) r = false
  · rw [if_pos c, if_pos ⟨c.1, by omega, c.2.2⟩]
  · rw [if_neg c, if_neg (fun z => c ⟨z.1, ?_, z.2.2⟩)]
    by_cases e : q = 60 * n + k
    · exfalso
      rw [e, show 60 * n + k - 60 * n = k from by omega, h] at z
      exact absurd z.2.2 (by decide)
    · omega
theorem XR.fk {S I : mI} {J J' : mJ} {n r k : Nat} (h : XR (zFk S n r k) I J) (hn : n < 3) (hk : k < 60) (hd : zD S k r = false) (hJ : J' = mul J (445 + 3 * n) 0 (J (445 + 3 * n) 0 &&& (((1 : Int64) <<< ((nI k).toInt64 &&& 63)) ^^^ (-1)))) : XR (zFk S n r (k + 1)) I J' := by
  have e : zFk S n r (k + 1) = mrow (zFk S n r k) 14 (fun q => if 60 * n ≤ q ∧ q < 60 * n + (k + 1) ∧ zD S (q - 60 * n) r = false then 0 else S 14 q) := by
    funext j
    unfold zFk
    by_cases hj : j = 14
    · subst hj
      rw [mrow_self, mrow_self]
    · rw [mrow_other _ _ hj, mrow_other _ _ hj, mrow_other _ _ hj]
  have t : ∀ q, zFk S n r k 14 q = if 60 * n ≤ q ∧ q < 60 * n + k ∧ zD S (q - 60 * n) r = false then 0 else S 14 q := fun q => by unfold zFk; rw [mrow_self]
  rw [e]
  refine h.setk hn (fun q hq => ?_) (fun q => ?_) (fun j hj => by rw [hJ]; exact mul_other _ _ _ hj) (fun b hb => ?_)
  · show (if 60 * n ≤ q ∧ q < 60 * n + (k + 1) ∧ zD S (q - 60 * n) r = false then 0 else S 14 q) = _
    rw [t, if_neg (fun z => by omega), if_neg (fun z => by omega)]
  · show (if 60 * n ≤ q ∧ q < 60 * n + (k + 1) ∧ zD S (q - 60 * n) r = false then 0 else S 14 q) = _ ∨ (if 60 * n ≤ q ∧ q < 60 * n + (k + 1) ∧ zD S (q - 60 * n) r = false then 0 else S 14 q) = 0 ∨ _
    by_cases c : 60 * n ≤ q ∧ q < 60 * n + (k + 1) ∧ zD S (q - 60 * n) r = false
    · rw [if_pos c]; exact Or.inr (Or.inl rfl)
    · rw [if_neg c, t, if_neg (fun z => c ⟨z.1, by omega, z.2.2⟩)]; exact Or.inl rfl
  · show _ = !decide ((if 60 * n ≤ 60 * n + b ∧ 60 * n + b < 60 * n + (k + 1) ∧ zD S (60 * n + b - 60 * n) r = false then 0 else S 14 (60 * n + b)) = 0)
    rw [hJ, mul_self]
    show bL (J (445 + 3 * n) 0 &&& (((1 : Int64) <<< ((nI k).toInt64 &&& 63)) ^^^ (-1))) b = _
    rw [L_clear _ (by omega) (by omega), h.kn hn hb, show 60 * n + b - 60 * n = b from by omega]
    unfold zKn
    rw [t, show 60 * n + b - 60 * n = b from by omega]
    by_cases e1 : k = b
    · subst e1
      rw [if_pos (show 60 * n ≤ 60 * n + k ∧ 60 * n + k < 60 * n + (k + 1) ∧ zD S k r = false from ⟨by omega, by omega, hd⟩)]
      simp
    · rw [decide_eq_false e1]
      by_cases c : 60 * n ≤ 60 * n + b ∧ 60 * n + b < 60 * n + k ∧ zD S b r = false
      · rw [if_pos c, if_pos ⟨c.1, by omega, c.2.2⟩]; simp
      · rw [if_neg c, if_neg (fun z => c ⟨z.1, by omega, z.2.2⟩)]; simp

def wp_I_append (R : Int32 → mI → mJ → Prop) (I0 : mI) (J0 : mJ) (jT : Nat) (a1 : Int32) (a2 : Int32) : Prop :=
  (((I0 jT 2) < 4 → (vp_in (I0 jT 2) 4 ∧ (∀ (I2 : mI), I2 = mu I0 (jT + 1) (I0 jT 2).toNatClampNeg a1 → (vp_in (I2 jT 2) 4 ∧ (∀ (I4 : mI), I4 = mu I2 (jT + 2) (I2 jT 2).toNatClampNeg a2 → (∀ (I5 : mI), I5 = mu I4 jT 2 ((I4 jT 2) + 1) → R (I5 jT 2) I5 J0)))))) ∧ (¬ ((I0 jT 2) < 4) → R (-2) I0 J0))
theorem P_I_append (I0 : mI) (J0 : mJ) (jT : Nat) (a1 : Int32) (a2 : Int32) (hkT : xk jT = 4) (hp : pI_append I0 J0 jT a1 a2)  (R : Int32 → mI → mJ → Prop)  (hR : ∀ (r : Int32) (I' : mI) (J' : mJ), qI_append I0 J0 jT a1 a2 r I' J' → R r I' J') : wp_I_append R I0 J0 jT a1 a2 := by
  unfold wp_I_append
  have hp : ¬ I0 jT 2 < 0 := hp
  refine ⟨fun h => ?_, fun h => hR _ _ _ ⟨rfl, Or.inl ⟨h, rfl, rfl⟩⟩⟩
  have hin : vp_in (I0 jT 2) 4 := by
    rcases pk_ix (I0 jT 2) (n := 4) (by omega) with h1 | h1 | ⟨j, hj, e⟩
    · exact absurd h1 hp
    · exact absurd h (Int32.not_lt.mpr h1)
    · rw [e]; exact vp_in_nI hj (by omega)
  refine ⟨hin, fun I2 e2 => ?_⟩
  have r2 : I2 jT = I0 jT := by rw [e2]; exact mu_other _ _ _ (by omega)
  rw [r2]
  refine ⟨hin, fun I4 e4 I5 e5 => ?_⟩
  have r4 : I4 jT = I0 jT := by rw [e4, mu_other _ _ _ (by omega)]; exact r2
  rw [r4] at e5
  refine hR _ _ _ ⟨rfl, Or.inr ⟨h, ?_, ?_⟩⟩
  · rw [e5, mu_self]; rfl
  · rw [e5, e4, e2]
set_option maxHeartbeats 4000000 in
set_option maxRecDepth 100000 in
theorem C_I_append (l : Launch) (D : va_G) (ca : Nat → Nat) (ad : Nat → Nat) (I0 : mI) (J0 : mJ) (jT : Nat) (a1 : Int32) (a2 : Int32) (hkT : xk jT = 4) (hp : pI_append I0 J0 jT a1 a2) : Met l yI_append wI_append ({ frames := 0, cells := 0, slots := 0, locals := 0 } : Room) (va_Pc [.ref (ad jT), .int a1, .int a2] (mPre D vwCl (xty ca) 459 ad (xmk ca ad) nL I0 J0)) (mQi D vwCl 459 ad (xmk ca ad) (qI_append I0 J0 jT a1 a2)) 0 0 (mA 459 ad) := by
  refine Met.ofW (cc := cI_append) (maxL := 3) (ret := (some .int)) (by decide) rfl ?_
  intro p e s m args below meth c s₁ B hml hv
  obtain ⟨rfl, hP, hK, hD0, hN⟩ := hv
  have hx := B.exec
  have hb := B.bytes
  have hr := B.returns
  have htb : ∀ w ∈ wb, w.before _ s = true := fun w h => atoms_spec (ws := wI_append) B.pre w (List.mem_cons_of_mem _ h)
  have hown : s.vm.findClass RI = some m.cls := findClass_of_methodNamed B.named
  have hlk := B.notSynchronized
  have hD := mw_Dm hD0
  have hS : va_S (mA 459 ad) s.heap s.heap [] := va_S.rf
  have hl := lv_entry ([.ref (ad jT), .int a1, .int a2]) (n := 3) (Nat.le_of_ble_eq_true rfl)
  rw [lg_entry_eq]
  generalize (lg_sl ([.ref (ad jT), .int a1, .int a2]) ++ List.replicate (3 - (lg_sl ([.ref (ad jT), .int a1, .int a2])).length) Slot.unset).toArray = ls at hl ⊢
  have hl : lv_has ls 3 [(0, .ref (ad jT)), (1, .int a1), (2, .int a2)] := hl
  have h := P_I_append I0 J0 jT a1 a2 hkT hp  (qI_append I0 J0 jT a1 a2)  (fun _ _ _ h => h)
  unfold wp_I_append at h
  refine lv_aload_n hx hb dI_append_0 rfl (lv_at hl 0 rfl) ?_
  refine va_get (D := D) (ci := 1) (v := .int (I0 jT 2)) (C := RI) (T := TI) (N := 3) hx hb htb inI hown hK hP jT (mw_at (xk_lt hkT (by decide)) (xm_I hkT _ _)) rfl 2 (by decide) (htb _ k1_41) (fun _ h9 => h9) rfl dI_append_1 ?_
  refine lv_iconst (v := 4) hx hb dI_append_4 (by decide) ?_
  refine lv_icmp_lt (tgt := 11) hx hb dI_append_5 (by decide) (fun hc => ?_) (fun hc => ?_)
  · have h := h.1 hc
    refine lv_aload_n hx hb dI_append_11 rfl (lv_at hl 0 rfl) ?_
    refine va_get (D := D) (ci := 1) (v := .ref (ad (jT + 1))) (C := RI) (T := TI) (N := 3) hx hb htb inI hown hK hP jT (mw_at (xk_lt hkT (by decide)) (xm_I hkT _ _)) rfl 0 (by decide) (htb _ k1_37) (fun _ h9 => h9) rfl dI_append_12 ?_
    refine lv_aload_n hx hb dI_append_15 rfl (lv_at hl 0 rfl) ?_
    refine va_get (D := D) (ci := 1) (v := .int (I0 jT 2)) (C := RI) (T := TI) (N := 3) hx hb htb inI hown hK hP jT (mw_at (xk_lt hkT (by decide)) (xm_I hkT _ _)) rfl 2 (by decide) (htb _ k1_41) (fun _ h9 => h9) rfl dI_append_16 ?_
    refine lv_iload_n hx hb dI_append_19 rfl (lv_at hl 1 rfl) ?_
    obtain ⟨hn1, h⟩ := h
    refine mr_iast hx hb hK hP hD hS (jT + 1) 0 (xk_lt (xk_I1 hkT) (by decide)) (fun f => xm_4 (xk_I1 hkT) f _) rfl hn1 dI_append_20 (fun H locs hP hS => ?_)
    generalize heI2 : mu I0 (jT + 1) (I0 jT 2).toNatClampNeg a1 = I2 at hP
    have h := h I2 heI2.symm
    refine lv_aload_n hx hb dI_append_21 rfl (lv_at hl 0 rfl) ?_
    refine va_get (D := D) (ci := 1) (v := .ref (ad (jT + 2))) (C := RI) (T := TI) (N := 3) hx hb htb inI hown hK hP jT (mw_at (xk_lt hkT (by decide)) (xm_I hkT _ _)) rfl 1 (by decide) (htb _ k1_39) (fun _ h9 => h9) rfl dI_append_22 ?_
    refine lv_aload_n hx hb dI_append_25 rfl (lv_at hl 0 rfl) ?_
    refine va_get (D := D) (ci := 1) (v := .int (I2 jT 2)) (C := RI) (T := TI) (N := 3) hx hb htb inI hown hK hP jT (mw_at (xk_lt hkT (by decide)) (xm_I hkT _ _)) rfl 2 (by decide) (htb _ k1_41) (fun _ h9 => h9) rfl dI_append_26 ?_
    refine lv_iload_n hx hb dI_append_29 rfl (lv_at hl 2 rfl) ?_
    obtain ⟨hn3, h⟩ := h
    refine mr_iast hx hb hK hP hD hS (jT + 2) 0 (xk_lt (xk_I2 hkT) (by decide)) (fun f => xm_4 (xk_I2 hkT) f _) rfl hn3 dI_append_30 (fun H locs hP hS => ?_)
    generalize heI4 : mu I2 (jT + 2) (I2 jT 2).toNatClampNeg a2 = I4 at hP
    have h := h I4 heI4.symm
    refine lv_aload_n hx hb dI_append_31 rfl (lv_at hl 0 rfl) ?_
    refine lv_dup hx hb dI_append_32 rfl ?_
    refine va_get (D := D) (ci := 1) (v := .int (I4 jT 2)) (C := RI) (T := TI) (N := 3) hx hb htb inI hown hK hP jT (mw_at (xk_lt hkT (by decide)) (xm_I hkT _ _)) rfl 2 (by decide) (htb _ k1_41) (fun _ h9 => h9) rfl dI_append_33 ?_
    refine lv_iconst (v := 1) hx hb dI_append_36 (by decide) ?_
    refine lv_iadd hx hb dI_append_37 ?_
    refine mr_puti hx hb htb inI tyI tyI_ok nmI hown hK hP hD hS jT (xk_lt hkT (by decide)) (xm_I hkT _ _) rfl 2 (by decide) (htb _ k1_41) (fun _ h9 => h9) rfl (by decide +kernel) (Nat.le_of_ble_eq_true rfl) (xm_I hkT _ _) dI_append_38 (fun H locs hP hS => ?_)
    generalize heI5 : mu I4 jT 2 ((I4 jT 2) + 1) = I5 at hP
    have h := h I5 heI5.symm
    refine lv_aload_n hx hb dI_append_41 rfl (lv_at hl 0 rfl) ?_
    refine va_get (D := D) (ci := 1) (v := .int (I5 jT 2)) (C := RI) (T := TI) (N := 3) hx hb htb inI hown hK hP jT (mw_at (xk_lt hkT (by decide)) (xm_I hkT _ _)) rfl 2 (by decide) (htb _ k1_41) (fun _ h9 => h9) rfl dI_append_42 ?_
    exact me_i hx hb hr hlk hP hS h dI_append_45
  · have h := h.2 hc
    refine lv_bipush (v := (-2)) hx hb dI_append_8 (by decide) ?_
    exact me_i hx hb hr hlk hP hS h dI_append_10
def wp_F_include (R : Int32 → mI → mJ → Prop) (I0 : mI) (J0 : mJ) (a1 : Int32) : Prop :=
  ((¬ ((fF_isVote I0 J0 a1) = 0) → (pI_append I0 J0 454 a1 (-1) ∧ (∀ (r3 : Int32) (I4 : mI) (J5 : mJ), qI_append I0 J0 454 a1 (-1) r3 I4 J5 → R r3 I4 J5))) ∧ ((fF_isVote I0 J0 a1) = 0 → R (-1) I0 J0))
theorem P_F_include (S : mI) (I0 : mI) (J0 : mJ) (a1 : Int32)  (hp : pX1 S I0 J0 a1)  (R : Int32 → mI → mJ → Prop)  (hR : ∀ (r : Int32) (I' : mI) (J' : mJ), qF_include S I0 J0 a1 r I' J' → R r I' J') : wp_F_include R I0 J0 a1 := by
  have hX : XR S I0 J0 := hp
  have hb := hX.1.b
  unfold wp_F_include
  refine ⟨fun h => ?_, fun h => hR _ _ _ ?_⟩
  · have h1 : iVt S a1 := nn (fun q => h (hX.isV.mpr q))
    obtain ⟨i, hi, rfl⟩ := hX.1.iV h1
    refine ⟨by unfold pI_append; rw [hX.pc]; exact nI_pos (by omega), fun r3 I4 J5 hq => hR _ _ _ ?_⟩
    unfold qF_include oInc
    rw [if_pos h1]
    have e : cN (nI i) = i := cN_nI (by omega)
    exact app_X hX ⟨by rw [e], Or.inl (by rw [e]; exact hi)⟩ (Or.inl ⟨by rw [e]; omega, rfl, rfl⟩) hq
  · unfold qF_include oInc
    rw [if_neg (hX.isV.mp h)]
    exact ⟨rfl, hX⟩
set_option maxHeartbeats 4000000 in
set_option maxRecDepth 100000 in
theorem C_F_include (l : Launch) (D : va_G) (ca : Nat → Nat) (ad : Nat → Nat) (S : mI) (I0 : mI) (J0 : mJ) (a1 : Int32)  (hp : pX1 S I0 J0 a1) : Met l yF_include wF_include ({ frames := 1, cells := 0, slots := 0, locals := 22 } : Room) (va_Pc [.ref (ad 0), .int a1] (mPre D vwCl (xty ca) 459 ad (xmk ca ad) nL I0 J0)) (mQi D vwCl 459 ad (xmk ca ad) (qF_include S I0 J0 a1)) 0 0 (mA 459 ad) := by
  refine Met.ofW (cc := cF_include) (maxL := 2) (ret := (some .int)) (by decide) rfl ?_
  intro p e s m args below meth c s₁ B hml hv
  obtain ⟨rfl, hP, hK, hD0, hN⟩ := hv
  have hx := B.exec
  have hb := B.bytes
  have hr := B.returns
  have htb : ∀ w ∈ wb, w.before _ s = true := fun w h => atoms_spec (ws := wF_include) B.pre w (List.mem_cons_of_mem _ h)
  have hown : s.vm.findClass RF = some m.cls := findClass_of_methodNamed B.named
  have hlk := B.notSynchronized
  have hD := mw_Dm hD0
  have hS : va_S (mA 459 ad) s.heap s.heap [] := va_S.rf
  have hl := lv_entry ([.ref (ad 0), .int a1]) (n := 2) (Nat.le_of_ble_eq_true rfl)
  rw [lg_entry_eq]
  generalize (lg_sl ([.ref (ad 0), .int a1]) ++ List.replicate (2 - (lg_sl ([.ref (ad 0), .int a1])).length) Slot.unset).toArray = ls at hl ⊢
  have hl : lv_has ls 2 [(0, .ref (ad 0)), (1, .int a1)] := hl
  have h := P_F_include S I0 J0 a1  hp  (qF_include S I0 J0 a1)  (fun _ _ _ h => h)
  unfold wp_F_include at h
  refine lv_aload_n hx hb dF_include_0 rfl (lv_at hl 0 rfl) ?_
  refine lv_iload_n hx hb dF_include_1 rfl (lv_at hl 1 rfl) ?_
  refine mc_r (va_runV (As := [.int a1]) (rest := []) ⟨hx, hb, hml, hown, htb⟩ (C_F_isVote l D ca ad I0 J0 a1) (cwV 1 htb (gd_v k1_230 k1_232 ks5 k1_1 k1_233) rfl rfl rfl (by decide +kernel) ⟨Nat.le_of_ble_eq_true rfl, Nat.le_of_ble_eq_true rfl⟩) (mPre_V hK hP hD hN rfl (mw_at (xk_lt (show xk 0 = 0 from rfl) (by decide)) (xm_F (show xk 0 = 0 from rfl) _ _))) rfl rfl hl.1 rfl (lv_room (Nat.le_of_ble_eq_true rfl)) dF_include_2 ⟨Nat.le_of_ble_eq_true rfl, Nat.le_of_ble_eq_true rfl⟩) hS (fun H locs hP hS => ?_)
  refine lv_if_ne (tgt := 10) hx hb dF_include_5 (by decide) (fun hc => ?_) (fun hc => ?_)
  · have h := h.1 hc
    refine lv_aload_n hx hb dF_include_10 rfl (lv_at hl 0 rfl) ?_
    refine va_get (D := D) (ci := 5) (v := .ref (ad 454)) (C := RF) (T := TF) (N := 11) hx hb htb inF hown hK hP 0 (mw_at (xk_lt (show xk 0 = 0 from rfl) (by decide)) (xm_F (show xk 0 = 0 from rfl) _ _)) rfl 9 (by decide) (htb _ k1_171) (fun _ h9 => h9) rfl dF_include_11 ?_
    refine lv_iload_n hx hb dF_include_14 rfl (lv_at hl 1 rfl) ?_
    refine lv_iconst (v := (-1)) hx hb dF_include_15 (by decide) ?_
    obtain ⟨hp2, h⟩ := h
    refine mc_i (va_runV (As := [.int a1, .int (-1)]) (rest := []) ⟨hx, hb, hml, hown, htb⟩ (C_I_append l D ca ad I0 J0 454 a1 (-1) (show xk 454 = 4 from rfl) hp2) (cwV 2 htb (gd_v k1_234 k1_235 k1_236 k1_4 k1_237) rfl rfl rfl (by decide +kernel) ⟨Nat.le_of_ble_eq_true rfl, Nat.le_of_ble_eq_true rfl⟩) (mPre_V hK hP hD hN rfl (mw_at (xk_lt (show xk 454 = 4 from rfl) (by decide)) (xm_I (show xk 454 = 4 from rfl) _ _))) rfl rfl hl.1 rfl (lv_room (Nat.le_of_ble_eq_true rfl)) dF_include_16 ⟨Nat.le_of_ble_eq_true rfl, Nat.le_of_ble_eq_true rfl⟩) hS (fun r3 I4 J5 H locs hpost hP hS => ?_)
    have h := h r3 I4 J5 hpost
    exact me_i hx hb hr hlk hP hS h dF_include_19
  · have h := h.2 hc
    refine lv_iconst (v := (-1)) hx hb dF_include_8 (by decide) ?_
    exact me_i hx hb hr hlk hP hS h dF_include_9
def wp_F_accuse (R : Int32 → mI → mJ → Prop) (I0 : mI) (J0 : mJ) (a1 : Int32) (a2 : Int32) : Prop :=
  (((fF_isVote I0 J0 a1) = 0 → R (-1) I0 J0) ∧ (¬ ((fF_isVote I0 J0 a1) = 0) → ((¬ ((fF_isVote I0 J0 a2) = 0) → (∃ (S3 : mI), (pF_clash S3 I0 J0 a1 a2 ∧ ((¬ ((fF_clash S3 I0 J0 a1 a2) = 0) → (pI_append I0 J0 454 a1 a2 ∧ (∀ (r6 : Int32) (I7 : mI) (J8 : mJ), qI_append I0 J0 454 a1 a2 r6 I7 J8 → R r6 I7 J8))) ∧ ((fF_clash S3 I0 J0 a1 a2) = 0 → R (-3) I0 J0))))) ∧ ((fF_isVote I0 J0 a2) = 0 → R (-1) I0 J0))))
theorem P_F_accuse (S : mI) (I0 : mI) (J0 : mJ) (a1 : Int32) (a2 : Int32)  (hp : pX2 S I0 J0 a1 a2)  (R : Int32 → mI → mJ → Prop)  (hR : ∀ (r : Int32) (I' : mI) (J' : mJ), qF_accuse S I0 J0 a1 a2 r I' J' → R r I' J') : wp_F_accuse R I0 J0 a1 a2 := by
  have hX : XR S I0 J0 := hp
  have hb := hX.1.b
  unfold wp_F_accuse
  refine ⟨fun h => hR _ _ _ ?_, fun h => ⟨fun h2 => ?_, fun h2 => hR _ _ _ ?_⟩⟩
  · unfold qF_accuse oAcc
    rw [if_pos (Or.inl (hX.isV.mp h))]
    exact ⟨rfl, hX⟩
  · have h1 : iVt S a1 := nn (fun q => h (hX.isV.mpr q))
    have h3 : iVt S a2 := nn (fun q => h2 (hX.isV.mpr q))
    obtain ⟨i, hi, rfl⟩ := hX.1.iV h1
    obtain ⟨j, hj, rfl⟩ := hX.1.iV h3
    have ei : cN (nI i) = i := cN_nI (by omega)
    have ej : cN (nI j) = j := cN_nI (by omega)
    have ex : cN (nI (i + 100 * (j + 1))) = i + 100 * (j + 1) := cN_nI (by omega)
    refine ⟨S, ⟨hX, ⟨i, hi, rfl⟩, ⟨j, hj, rfl⟩⟩, fun h4 => ?_, fun h4 => hR _ _ _ ?_⟩
    · refine ⟨by unfold pI_append; rw [hX.pc]; exact nI_pos (by omega), fun r3 I4 J5 hq => hR _ _ _ ?_⟩
      unfold qF_accuse oAcc
      rw [if_neg (fun q => q.elim (fun z => z h1) (fun z => z h3)), if_pos (bz_n0.mp h4), ei, ej]
      refine app_X hX ⟨by rw [ex], Or.inr ⟨i, j, hi, hj, ex⟩⟩ (Or.inr ⟨by rw [ex]; omega, ?_, ?_⟩) hq
      · rw [ex]; congr 1; omega
      · rw [ex]; congr 1; omega
    · unfold qF_accuse oAcc
      rw [if_neg (fun q => q.elim (fun z => z h1) (fun z => z h3)), if_neg (by rw [show zCl S (cN (nI i)) (cN (nI j)) = false from bz_0.mp h4]; decide)]
      exact ⟨rfl, hX⟩
  · unfold qF_accuse oAcc
    rw [if_pos (Or.inr (hX.isV.mp h2))]
    exact ⟨rfl, hX⟩
set_option maxHeartbeats 4000000 in
set_option maxRecDepth 100000 in
theorem C_F_accuse (l : Launch) (D : va_G) (ca : Nat → Nat) (ad : Nat → Nat) (S : mI) (I0 : mI) (J0 : mJ) (a1 : Int32) (a2 : Int32)  (hp : pX2 S I0 J0 a1 a2) : Met l yF_accuse wF_accuse ({ frames := 3, cells := 0, slots := 0, locals := 65 } : Room) (va_Pc [.ref (ad 0), .int a1, .int a2] (mPre D vwCl (xty ca) 459 ad (xmk ca ad) nL I0 J0)) (mQi D vwCl 459 ad (xmk ca ad) (qF_accuse S I0 J0 a1 a2)) 0 0 (mA 459 ad) := by
  refine Met.ofW (cc := cF_accuse) (maxL := 3) (ret := (some .int)) (by decide) rfl ?_
  intro p e s m args below meth c s₁ B hml hv
  obtain ⟨rfl, hP, hK, hD0, hN⟩ := hv
  have hx := B.exec
  have hb := B.bytes
  have hr := B.returns
  have htb : ∀ w ∈ wb, w.before _ s = true := fun w h => atoms_spec (ws := wF_accuse) B.pre w (List.mem_cons_of_mem _ h)
  have hown : s.vm.findClass RF = some m.cls := findClass_of_methodNamed B.named
  have hlk := B.notSynchronized
  have hD := mw_Dm hD0
  have hS : va_S (mA 459 ad) s.heap s.heap [] := va_S.rf
  have hl := lv_entry ([.ref (ad 0), .int a1, .int a2]) (n := 3) (Nat.le_of_ble_eq_true rfl)
  rw [lg_entry_eq]
  generalize (lg_sl ([.ref (ad 0), .int a1, .int a2]) ++ List.replicate (3 - (lg_sl ([.ref (ad 0), .int a1, .int a2])).length) Slot.unset).toArray = ls at hl ⊢
  have hl : lv_has ls 3 [(0, .ref (ad 0)), (1, .int a1), (2, .int a2)] := hl
  have h := P_F_accuse S I0 J0 a1 a2  hp  (qF_accuse S I0 J0 a1 a2)  (fun _ _ _ h => h)
  unfold wp_F_accuse at h
  refine lv_aload_n hx hb dF_accuse_0 rfl (lv_at hl 0 rfl) ?_
  refine lv_iload_n hx hb dF_accuse_1 rfl (lv_at hl 1 rfl) ?_
  refine mc_r (va_runV (As := [.int a1]) (rest := []) ⟨hx, hb, hml, hown, htb⟩ (C_F_isVote l D ca ad I0 J0 a1) (cwV 1 htb (gd_v k1_230 k1_232 ks5 k1_1 k1_233) rfl rfl rfl (by decide +kernel) ⟨Nat.le_of_ble_eq_true rfl, Nat.le_of_ble_eq_true rfl⟩) (mPre_V hK hP hD hN rfl (mw_at (xk_lt (show xk 0 = 0 from rfl) (by decide)) (xm_F (show xk 0 = 0 from rfl) _ _))) rfl rfl hl.1 rfl (lv_room (Nat.le_of_ble_eq_true rfl)) dF_accuse_2 ⟨Nat.le_of_ble_eq_true rfl, Nat.le_of_ble_eq_true rfl⟩) hS (fun H locs hP hS => ?_)
  refine lv_if_eq (tgt := 16) hx hb dF_accuse_5 (by decide) (fun hc => ?_) (fun hc => ?_)
  · have h := h.1 hc
    refine lv_iconst (v := (-1)) hx hb dF_accuse_16 (by decide) ?_
    exact me_i hx hb hr hlk hP hS h dF_accuse_17
  · have h := h.2 hc
    refine lv_aload_n hx hb dF_accuse_8 rfl (lv_at hl 0 rfl) ?_
    refine lv_iload_n hx hb dF_accuse_9 rfl (lv_at hl 2 rfl) ?_
    refine mc_r (va_runV (As := [.int a2]) (rest := []) ⟨hx, hb, hml, hown, htb⟩ (C_F_isVote l D ca ad I0 J0 a2) (cwV 1 htb (gd_v k1_230 k1_232 ks5 k1_1 k1_233) rfl rfl rfl (by decide +kernel) ⟨Nat.le_of_ble_eq_true rfl, Nat.le_of_ble_eq_true rfl⟩) (mPre_V hK hP hD hN rfl (mw_at (xk_lt (show xk 0 = 0 from rfl) (by decide)) (xm_F (show xk 0 = 0 from rfl) _ _))) rfl rfl hl.1 rfl (lv_room (Nat.le_of_ble_eq_true rfl)) dF_accuse_10 ⟨Nat.le_of_ble_eq_true rfl, Nat.le_of_ble_eq_true rfl⟩) hS (fun H locs hP hS => ?_)
    refine lv_if_ne (tgt := 18) hx hb dF_accuse_13 (by decide) (fun hc => ?_) (fun hc => ?_)
    · have h := h.1 hc
      refine lv_aload_n hx hb dF_accuse_18 rfl (lv_at hl 0 rfl) ?_
      refine lv_iload_n hx hb dF_accuse_19 rfl (lv_at hl 1 rfl) ?_
      refine lv_iload_n hx hb dF_accuse_20 rfl (lv_at hl 2 rfl) ?_
      obtain ⟨S3, h⟩ := h
      obtain ⟨hp4, h⟩ := h
      refine mc_r (va_runV (As := [.int a1, .int a2]) (rest := []) ⟨hx, hb, hml, hown, htb⟩ (C_F_clash l D ca ad S3 I0 J0 a1 a2 hp4) (cwV 2 htb (gd_v k2_2 k2_4 ks6 k1_1 k2_5) rfl rfl rfl (by decide +kernel) ⟨Nat.le_of_ble_eq_true rfl, Nat.le_of_ble_eq_true rfl⟩) (mPre_V hK hP hD hN rfl (mw_at (xk_lt (show xk 0 = 0 from rfl) (by decide)) (xm_F (show xk 0 = 0 from rfl) _ _))) rfl rfl hl.1 rfl (lv_room (Nat.le_of_ble_eq_true rfl)) dF_accuse_21 ⟨Nat.le_of_ble_eq_true rfl, Nat.le_of_ble_eq_true rfl⟩) hS (fun H locs hP hS => ?_)
      refine lv_if_ne (tgt := 30) hx hb dF_accuse_24 (by decide) (fun hc => ?_) (fun hc => ?_)
      · have h := h.1 hc
        refine lv_aload_n hx hb dF_accuse_30 rfl (lv_at hl 0 rfl) ?_
        refine va_get (D := D) (ci := 5) (v := .ref (ad 454)) (C := RF) (T := TF) (N := 11) hx hb htb inF hown hK hP 0 (mw_at (xk_lt (show xk 0 = 0 from rfl) (by decide)) (xm_F (show xk 0 = 0 from rfl) _ _)) rfl 9 (by decide) (htb _ k1_171) (fun _ h9 => h9) rfl dF_accuse_31 ?_
        refine lv_iload_n hx hb dF_accuse_34 rfl (lv_at hl 1 rfl) ?_
        refine lv_iload_n hx hb dF_accuse_35 rfl (lv_at hl 2 rfl) ?_
        obtain ⟨hp5, h⟩ := h
        refine mc_i (va_runV (As := [.int a1, .int a2]) (rest := []) ⟨hx, hb, hml, hown, htb⟩ (C_I_append l D ca ad I0 J0 454 a1 a2 (show xk 454 = 4 from rfl) hp5) (cwV 2 htb (gd_v k1_234 k1_235 k1_236 k1_4 k1_237) rfl rfl rfl (by decide +kernel) ⟨Nat.le_of_ble_eq_true rfl, Nat.le_of_ble_eq_true rfl⟩) (mPre_V hK hP hD hN rfl (mw_at (xk_lt (show xk 454 = 4 from rfl) (by decide)) (xm_I (show xk 454 = 4 from rfl) _ _))) rfl rfl hl.1 rfl (lv_room (Nat.le_of_ble_eq_true rfl)) dF_accuse_36 ⟨Nat.le_of_ble_eq_true rfl, Nat.le_of_ble_eq_true rfl⟩) hS (fun r6 I7 J8 H locs hpost hP hS => ?_)
        have h := h r6 I7 J8 hpost
        exact me_i hx hb hr hlk hP hS h dF_accuse_39
      · have h := h.2 hc
        refine lv_bipush (v := (-3)) hx hb dF_accuse_27 (by decide) ?_
        exact me_i hx hb hr hlk hP hS h dF_accuse_29
    · have h := h.2 hc
      refine lv_iconst (v := (-1)) hx hb dF_accuse_16 (by decide) ?_
      exact me_i hx hb hr hlk hP hS h dF_accuse_17
def wp_F_clear (R : Int32 → mI → mJ → Prop) (I0 : mI) (J0 : mJ)  : Prop :=
  (∀ (I1 : mI), I1 = mu I0 454 2 0 → R (I0 454 2) I1 J0)
theorem P_F_clear (S : mI) (I0 : mI) (J0 : mJ)   (hp : pX0 S I0 J0)  (R : Int32 → mI → mJ → Prop)  (hR : ∀ (r : Int32) (I' : mI) (J' : mJ), qF_clear S I0 J0 r I' J' → R r I' J') : wp_F_clear R I0 J0  := by
  have hX : XR S I0 J0 := hp
  have hb := hX.1.b
  unfold wp_F_clear
  intro I1 e1
  refine hR _ _ _ ⟨hX.2.2.2.2.1.1, ?_⟩
  rw [e1]
  exact hX.clr
set_option maxHeartbeats 4000000 in
set_option maxRecDepth 100000 in
theorem C_F_clear (l : Launch) (D : va_G) (ca : Nat → Nat) (ad : Nat → Nat) (S : mI) (I0 : mI) (J0 : mJ)   (hp : pX0 S I0 J0) : Met l yF_clear wF_clear ({ frames := 0, cells := 0, slots := 0, locals := 0 } : Room) (va_Pc [.ref (ad 0)] (mPre D vwCl (xty ca) 459 ad (xmk ca ad) nL I0 J0)) (mQi D vwCl 459 ad (xmk ca ad) (qF_clear S I0 J0)) 0 0 (mA 459 ad) := by
  refine Met.ofW (cc := cF_clear) (maxL := 2) (ret := (some .int)) (by decide) rfl ?_
  intro p e s m args below meth c s₁ B hml hv
  obtain ⟨rfl, hP, hK, hD0, hN⟩ := hv
  have hx := B.exec
  have hb := B.bytes
  have hr := B.returns
  have htb : ∀ w ∈ wb, w.before _ s = true := fun w h => atoms_spec (ws := wF_clear) B.pre w (List.mem_cons_of_mem _ h)
  have hown : s.vm.findClass RF = some m.cls := findClass_of_methodNamed B.named
  have hlk := B.notSynchronized
  have hD := mw_Dm hD0
  have hS : va_S (mA 459 ad) s.heap s.heap [] := va_S.rf
  have hl := lv_entry ([.ref (ad 0)]) (n := 2) (Nat.le_of_ble_eq_true rfl)
  rw [lg_entry_eq]
  generalize (lg_sl ([.ref (ad 0)]) ++ List.replicate (2 - (lg_sl ([.ref (ad 0)])).length) Slot.unset).toArray = ls at hl ⊢
  have hl : lv_has ls 2 [(0, .ref (ad 0))] := hl
  have h := P_F_clear S I0 J0   hp  (qF_clear S I0 J0)  (fun _ _ _ h => h)
  unfold wp_F_clear at h
  refine lv_aload_n hx hb dF_clear_0 rfl (lv_at hl 0 rfl) ?_
  refine va_get (D := D) (ci := 5) (v := .ref (ad 454)) (C := RF) (T := TF) (N := 11) hx hb htb inF hown hK hP 0 (mw_at (xk_lt (show xk 0 = 0 from rfl) (by decide)) (xm_F (show xk 0 = 0 from rfl) _ _)) rfl 9 (by decide) (htb _ k1_171) (fun _ h9 => h9) rfl dF_clear_1 ?_
  refine va_get (D := D) (ci := 1) (v := .int (I0 454 2)) (C := RI) (T := TI) (N := 3) hx hb htb inI hown hK hP 454 (mw_at (xk_lt (show xk 454 = 4 from rfl) (by decide)) (xm_I (show xk 454 = 4 from rfl) _ _)) rfl 2 (by decide) (htb _ k1_42) (fun _ h9 => h9) rfl dF_clear_4 ?_
  refine lv_istore_n (lv' := [(1, .int (I0 454 2)), (0, .ref (ad 0))]) hx hb dF_clear_7 rfl hl (by decide) rfl (fun ls hl => ?_)
  refine lv_aload_n hx hb dF_clear_8 rfl (lv_at hl 1 rfl) ?_
  refine va_get (D := D) (ci := 5) (v := .ref (ad 454)) (C := RF) (T := TF) (N := 11) hx hb htb inF hown hK hP 0 (mw_at (xk_lt (show xk 0 = 0 from rfl) (by decide)) (xm_F (show xk 0 = 0 from rfl) _ _)) rfl 9 (by decide) (htb _ k1_171) (fun _ h9 => h9) rfl dF_clear_9 ?_
  refine lv_iconst (v := 0) hx hb dF_clear_12 (by decide) ?_
  refine mr_puti hx hb htb inI tyI tyI_ok nmI hown hK hP hD hS 454 (xk_lt (show xk 454 = 4 from rfl) (by decide)) (xm_I (show xk 454 = 4 from rfl) _ _) rfl 2 (by decide) (htb _ k1_42) (fun _ h9 => h9) rfl (by decide +kernel) (Nat.le_of_ble_eq_true rfl) (xm_I (show xk 454 = 4 from rfl) _ _) dF_clear_13 (fun H locs hP hS => ?_)
  generalize heI1 : mu I0 454 2 0 = I1 at hP
  have h := h I1 heI1.symm
  refine lv_iload_n hx hb dF_clear_16 rfl (lv_at hl 0 rfl) ?_
  exact me_i hx hb hr hlk hP hS h dF_clear_17
def wp_F_takeInVote (R : mI → mJ → Prop) (I0 : mI) (J0 : mJ) (j1 : Nat) (a2 : Int32) : Prop :=
  (vp_in a2 80 ∧ (vp_in (I0 (364 + a2.toNatClampNeg) 0) 7 ∧ (vp_in a2 80 ∧ (∀ (I4 : mI), I4 = mu I0 (j1 + 1) a2.toNatClampNeg (vp_nar .boolean 1) → (((I0 (j1 + 2) (I0 (364 + a2.toNatClampNeg) 0).toNatClampNeg) = (-1) → (vp_in (I0 (364 + a2.toNatClampNeg) 0) 7 ∧ (∀ (I6 : mI), I6 = mu I4 (j1 + 2) (I0 (364 + a2.toNatClampNeg) 0).toNatClampNeg a2 → R I6 J0))) ∧ (¬ ((I0 (j1 + 2) (I0 (364 + a2.toNatClampNeg) 0).toNatClampNeg) = (-1)) → (vp_in a2 80 ∧ (vp_in (I0 (j1 + 2) (I0 (364 + a2.toNatClampNeg) 0).toNatClampNeg) 80 ∧ (((I4 (364 + (I0 (j1 + 2) (I0 (364 + a2.toNatClampNeg) 0).toNatClampNeg).toNatClampNeg) 1) < (I4 (364 + a2.toNatClampNeg) 1) → (vp_in (I0 (364 + a2.toNatClampNeg) 0) 7 ∧ (∀ (I10 : mI), I10 = mu I4 (j1 + 2) (I0 (364 + a2.toNatClampNeg) 0).toNatClampNeg a2 → R I10 J0))) ∧ (¬ ((I4 (364 + (I0 (j1 + 2) (I0 (364 + a2.toNatClampNeg) 0).toNatClampNeg).toNatClampNeg) 1) < (I4 (364 + a2.toNatClampNeg) 1)) → (vp_in a2 80 ∧ (vp_in (I0 (j1 + 2) (I0 (364 + a2.toNatClampNeg) 0).toNatClampNeg) 80 ∧ ((¬ ((I4 (364 + a2.toNatClampNeg) 1) = (I4 (364 + (I0 (j1 + 2) (I0 (364 + a2.toNatClampNeg) 0).toNatClampNeg).toNatClampNeg) 1)) → R I4 J0) ∧ ((I4 (364 + a2.toNatClampNeg) 1) = (I4 (364 + (I0 (j1 + 2) (I0 (364 + a2.toNatClampNeg) 0).toNatClampNeg).toNatClampNeg) 1) → ((a2 ≤ (I0 (j1 + 2) (I0 (364 + a2.toNatClampNeg) 0).toNatClampNeg) → R I4 J0) ∧ (¬ (a2 ≤ (I0 (j1 + 2) (I0 (364 + a2.toNatClampNeg) 0).toNatClampNeg)) → (vp_in (I0 (364 + a2.toNatClampNeg) 0) 7 ∧ (∀ (I14 : mI), I14 = mu I4 (j1 + 2) (I0 (364 + a2.toNatClampNeg) 0).toNatClampNeg a2 → R I14 J0))))))))))))))))))
theorem P_F_takeInVote (S : mI) (I0 : mI) (J0 : mJ) (j1 : Nat) (a2 : Int32) (hk1 : xk j1 = 10) (hp : pF_takeInVote S I0 J0 j1 a2)  (R : mI → mJ → Prop)  (hR : ∀ (I' : mI) (J' : mJ), qF_takeInVote S I0 J0 j1 a2 I' J' → R I' J') : wp_F_takeInVote R I0 J0 j1 a2 := by
  obtain ⟨hX, ⟨n, hn, rfl⟩, ⟨i, hi, rfl⟩⟩ := hp
  have hb := hX.1.b
  have vi := hX.1.v hi
  unfold wp_F_takeInVote
  have ei : (nI i).toNatClampNeg = i := nI_clamp (by omega)
  have ev : (nI (zVr S i)).toNatClampNeg = zVr S i := nI_clamp (by omega)
  rw [ei, hX.v0 hi, ev, hX.la hn (by omega)]
  have i80 : vp_in (nI i) 80 := vp_in_nI (by omega) (by omega)
  have i7 : vp_in (nI (zVr S i)) 7 := vp_in_nI (by omega) (by omega)
  refine ⟨i80, i7, i80, fun I4 e4 => ?_⟩
  have r4 : ∀ j, j ≠ 445 + 3 * n + 1 → I4 j = I0 j := fun j hj => by rw [e4]; exact mu_other _ _ _ hj
  have q4 : I4 (445 + 3 * n + 1) = upd (I0 (445 + 3 * n + 1)) i 1 := by rw [e4, mu_self]; rfl
  have fin : ∀ I6, I6 = mu I4 (445 + 3 * n + 2) (zVr S i) (nI i) → zNew S n i → R I6 J0 := fun I6 e6 hw => by
    apply hR
    unfold qF_takeInVote
    rw [iN_n, cN_nI (by omega)]
    refine hX.hear hn hi (fun j h1 h2 => ?_) ?_ (fun _ => ?_) (fun z => absurd hw z)
    · rw [e6, mu_other _ _ _ h2]; exact r4 j h1
    · rw [e6, mu_other _ _ _ (by omega)]; exact q4
    · rw [e6, mu_self, r4 _ (by omega)]
  have fin2 : ¬ zNew S n i → R I4 J0 := fun hw => by
    apply hR
    unfold qF_takeInVote
    rw [iN_n, cN_nI (by omega)]
    exact hX.hear hn hi (fun j h1 h2 => r4 j h1) q4 (fun z => absurd z hw) (fun _ => r4 _ (by omega))
  cases hz : zLf S n (zVr S i) (zVc S) with
  | none =>
    have hw : zNew S n i := by unfold zNew; rw [hz]; trivial
    exact ⟨fun _ => ⟨i7, fun I6 e6 => fin I6 e6 hw⟩, fun h => absurd rfl h⟩
  | some b =>
    have hbv : b < zVc S := ((zLf_all S n _ _).1 b hz).1
    have vb := hX.1.v hbv
    have eb : (nI b).toNatClampNeg = b := nI_clamp (by omega)
    have hw : zNew S n i ↔ (zVs S b < zVs S i ∨ (zVs S b = zVs S i ∧ b < i)) := by unfold zNew; rw [hz]
    have b80 : vp_in (nI b) 80 := vp_in_nI (by omega) (by omega)
    refine ⟨fun h => absurd h (oI_ne (by omega)), fun _ => ?_⟩
    show _ ∧ vp_in (nI b) 80 ∧ _
    rw [show oI (some b) = nI b from rfl, eb, r4 (364 + b) (by omega), r4 (364 + i) (by omega), hX.v1 hbv, hX.v1 hi]
    refine ⟨i80, b80, fun h => ⟨i7, fun I10 e10 => fin I10 e10 (hw.mpr (Or.inl ((nI_ltI (by omega) (by omega)).mp h)))⟩, fun h => ⟨i80, b80, fun h2 => fin2 (fun z => ?_), fun h2 => ⟨fun h3 => fin2 (fun z => ?_), fun h3 => ⟨i7, fun I14 e14 => fin I14 e14 (hw.mpr (Or.inr ⟨?_, ?_⟩))⟩⟩⟩⟩
    · rw [nI_eq (by omega) (by omega)] at h2
      rw [nI_ltI (by omega) (by omega)] at h
      have := hw.mp z
      omega
    · rw [nI_ltI (by omega) (by omega)] at h
      rw [nI_leI (by omega) (by omega)] at h3
      have := hw.mp z
      omega
    · rw [nI_eq (by omega) (by omega)] at h2
      exact h2.symm
    · rw [nI_leI (by omega) (by omega)] at h3
      omega
set_option maxHeartbeats 4000000 in
set_option maxRecDepth 100000 in
theorem C_F_takeInVote (l : Launch) (D : va_G) (ca : Nat → Nat) (ad : Nat → Nat) (S : mI) (I0 : mI) (J0 : mJ) (j1 : Nat) (a2 : Int32) (hk1 : xk j1 = 10) (hp : pF_takeInVote S I0 J0 j1 a2) : Met l yF_takeInVote wF_takeInVote ({ frames := 0, cells := 0, slots := 0, locals := 0 } : Room) (va_Pc [.ref (ad 0), .ref (ad j1), .int a2] (mPre D vwCl (xty ca) 459 ad (xmk ca ad) nL I0 J0)) (mQv D vwCl 459 ad (xmk ca ad) (qF_takeInVote S I0 J0 j1 a2)) 0 0 (mA 459 ad) := by
  refine Met.ofW (cc := cF_takeInVote) (maxL := 5) (ret := none) (by decide) rfl ?_
  intro p e s m args below meth c s₁ B hml hv
  obtain ⟨rfl, hP, hK, hD0, hN⟩ := hv
  have hx := B.exec
  have hb := B.bytes
  have hr := B.returns
  have htb : ∀ w ∈ wb, w.before _ s = true := fun w h => atoms_spec (ws := wF_takeInVote) B.pre w (List.mem_cons_of_mem _ h)
  have hown : s.vm.findClass RF = some m.cls := findClass_of_methodNamed B.named
  have hlk := B.notSynchronized
  have hD := mw_Dm hD0
  have hS : va_S (mA 459 ad) s.heap s.heap [] := va_S.rf
  have hl := lv_entry ([.ref (ad 0), .ref (ad j1), .int a2]) (n := 5) (Nat.le_of_ble_eq_true rfl)
  rw [lg_entry_eq]
  generalize (lg_sl ([.ref (ad 0), .ref (ad j1), .int a2]) ++ List.replicate (5 - (lg_sl ([.ref (ad 0), .ref (ad j1), .int a2])).length) Slot.unset).toArray = ls at hl ⊢
  have hl : lv_has ls 5 [(0, .ref (ad 0)), (1, .ref (ad j1)), (2, .int a2)] := hl
  have h := P_F_takeInVote S I0 J0 j1 a2 hk1 hp  (qF_takeInVote S I0 J0 j1 a2)  (fun _ _ h => h)
  unfold wp_F_takeInVote at h
  refine lv_aload_n hx hb dF_takeInVote_0 rfl (lv_at hl 0 rfl) ?_
  refine va_get (D := D) (ci := 5) (v := .ref (ad 363)) (C := RF) (T := TF) (N := 11) hx hb htb inF hown hK hP 0 (mw_at (xk_lt (show xk 0 = 0 from rfl) (by decide)) (xm_F (show xk 0 = 0 from rfl) _ _)) rfl 6 (by decide) (htb _ k1_168) (fun _ h9 => h9) rfl dF_takeInVote_1 ?_
  refine lv_iload_n hx hb dF_takeInVote_4 rfl (lv_at hl 2 rfl) ?_
  obtain ⟨hn1, h⟩ := h
  refine mr_aald hx hb hK hP 363 3 (xk_lt (show xk 363 = 7 from rfl) (by decide)) (xm_VA (show xk 363 = 7 from rfl) _ _) rfl hn1 dF_takeInVote_5 ?_
  refine va_get (D := D) (ci := 4) (v := .int (I0 (364 + a2.toNatClampNeg) 0)) (C := RV) (T := TV) (N := 5) hx hb htb inV hown hK hP (364 + a2.toNatClampNeg) (mw_at (xk_lt (xk_V hn1) (by decide)) (xm_V (xk_V hn1) _ _)) rfl 0 (by decide) (htb _ k1_113) (fun _ h9 => h9) rfl dF_takeInVote_6 ?_
  refine lv_istore_n (lv' := [(3, .int (I0 (364 + a2.toNatClampNeg) 0)), (0, .ref (ad 0)), (1, .ref (ad j1)), (2, .int a2)]) hx hb dF_takeInVote_9 rfl hl (by decide) rfl (fun ls hl => ?_)
  refine lv_aload_n hx hb dF_takeInVote_10 rfl (lv_at hl 2 rfl) ?_
  refine va_get (D := D) (ci := 2) (v := .ref (ad (j1 + 2))) (C := RN) (T := TN) (N := 5) hx hb htb inN hown hK hP j1 (mw_at (xk_lt hk1 (by decide)) (xm_N hk1 _ _)) rfl 2 (by decide) (htb _ k1_143) (fun _ h9 => h9) rfl dF_takeInVote_11 ?_
  refine lv_iload_n hx hb dF_takeInVote_14 rfl (lv_at hl 0 rfl) ?_
  obtain ⟨hn2, h⟩ := h
  refine mr_iald hx hb hK hP (j1 + 2) 0 (xk_lt (xk_NL hk1) (by decide)) (xm_7 (xk_NL hk1) _ _) rfl hn2 dF_takeInVote_15 ?_
  refine lv_istore (lv' := [(4, .int (I0 (j1 + 2) (I0 (364 + a2.toNatClampNeg) 0).toNatClampNeg)), (3, .int (I0 (364 + a2.toNatClampNeg) 0)), (0, .ref (ad 0)), (1, .ref (ad j1)), (2, .int a2)]) hx hb dF_takeInVote_16 hl (by decide) rfl (fun ls hl => ?_)
  refine lv_aload_n hx hb dF_takeInVote_18 rfl (lv_at hl 3 rfl) ?_
  refine va_get (D := D) (ci := 2) (v := .ref (ad (j1 + 1))) (C := RN) (T := TN) (N := 5) hx hb htb inN hown hK hP j1 (mw_at (xk_lt hk1 (by decide)) (xm_N hk1 _ _)) rfl 1 (by decide) (htb _ k1_141) (fun _ h9 => h9) rfl dF_takeInVote_19 ?_
  refine lv_iload_n hx hb dF_takeInVote_22 rfl (lv_at hl 4 rfl) ?_
  refine lv_iconst (v := 1) hx hb dF_takeInVote_23 (by decide) ?_
  obtain ⟨hn3, h⟩ := h
  refine mr_zast hx hb hK hP hD hS (j1 + 1) 1 (xk_lt (xk_NH hk1) (by decide)) (fun f => xm_Z (xk_NH hk1) f _) rfl hn3 dF_takeInVote_24 (fun H locs hP hS => ?_)
  generalize heI4 : mu I0 (j1 + 1) a2.toNatClampNeg (vp_nar .boolean 1) = I4 at hP
  have h := h I4 heI4.symm
  refine lv_iload hx hb dF_takeInVote_25 (lv_at hl 0 rfl) ?_
  refine lv_iconst (v := (-1)) hx hb dF_takeInVote_27 (by decide) ?_
  refine lv_icmp_eq (tgt := 81) hx hb dF_takeInVote_28 (by decide) (fun hc => ?_) (fun hc => ?_)
  · have h := h.1 hc
    refine lv_aload_n hx hb dF_takeInVote_81 rfl (lv_at hl 3 rfl) ?_
    refine va_get (D := D) (ci := 2) (v := .ref (ad (j1 + 2))) (C := RN) (T := TN) (N := 5) hx hb htb inN hown hK hP j1 (mw_at (xk_lt hk1 (by decide)) (xm_N hk1 _ _)) rfl 2 (by decide) (htb _ k1_143) (fun _ h9 => h9) rfl dF_takeInVote_82 ?_
    refine lv_iload_n hx hb dF_takeInVote_85 rfl (lv_at hl 1 rfl) ?_
    refine lv_iload_n hx hb dF_takeInVote_86 rfl (lv_at hl 4 rfl) ?_
    obtain ⟨hn5, h⟩ := h
    refine mr_iast hx hb hK hP hD hS (j1 + 2) 0 (xk_lt (xk_NL hk1) (by decide)) (fun f => xm_7 (xk_NL hk1) f _) rfl hn5 dF_takeInVote_87 (fun H locs hP hS => ?_)
    generalize heI6 : mu I4 (j1 + 2) (I0 (364 + a2.toNatClampNeg) 0).toNatClampNeg a2 = I6 at hP
    have h := h I6 heI6.symm
    exact me_v hx hb hr hlk hP hS h dF_takeInVote_88
  · have h := h.2 hc
    refine lv_aload_n hx hb dF_takeInVote_31 rfl (lv_at hl 2 rfl) ?_
    refine va_get (D := D) (ci := 5) (v := .ref (ad 363)) (C := RF) (T := TF) (N := 11) hx hb htb inF hown hK hP 0 (mw_at (xk_lt (show xk 0 = 0 from rfl) (by decide)) (xm_F (show xk 0 = 0 from rfl) _ _)) rfl 6 (by decide) (htb _ k1_168) (fun _ h9 => h9) rfl dF_takeInVote_32 ?_
    refine lv_iload_n hx hb dF_takeInVote_35 rfl (lv_at hl 4 rfl) ?_
    obtain ⟨hn7, h⟩ := h
    refine mr_aald hx hb hK hP 363 3 (xk_lt (show xk 363 = 7 from rfl) (by decide)) (xm_VA (show xk 363 = 7 from rfl) _ _) rfl hn7 dF_takeInVote_36 ?_
    refine va_get (D := D) (ci := 4) (v := .int (I4 (364 + a2.toNatClampNeg) 1)) (C := RV) (T := TV) (N := 5) hx hb htb inV hown hK hP (364 + a2.toNatClampNeg) (mw_at (xk_lt (xk_V hn7) (by decide)) (xm_V (xk_V hn7) _ _)) rfl 1 (by decide) (htb _ k1_114) (fun _ h9 => h9) rfl dF_takeInVote_37 ?_
    refine lv_aload_n hx hb dF_takeInVote_40 rfl (lv_at hl 2 rfl) ?_
    refine va_get (D := D) (ci := 5) (v := .ref (ad 363)) (C := RF) (T := TF) (N := 11) hx hb htb inF hown hK hP 0 (mw_at (xk_lt (show xk 0 = 0 from rfl) (by decide)) (xm_F (show xk 0 = 0 from rfl) _ _)) rfl 6 (by decide) (htb _ k1_168) (fun _ h9 => h9) rfl dF_takeInVote_41 ?_
    refine lv_iload hx hb dF_takeInVote_44 (lv_at hl 0 rfl) ?_
    obtain ⟨hn8, h⟩ := h
    refine mr_aald hx hb hK hP 363 3 (xk_lt (show xk 363 = 7 from rfl) (by decide)) (xm_VA (show xk 363 = 7 from rfl) _ _) rfl hn8 dF_takeInVote_46 ?_
    refine va_get (D := D) (ci := 4) (v := .int (I4 (364 + (I0 (j1 + 2) (I0 (364 + a2.toNatClampNeg) 0).toNatClampNeg).toNatClampNeg) 1)) (C := RV) (T := TV) (N := 5) hx hb htb inV hown hK hP (364 + (I0 (j1 + 2) (I0 (364 + a2.toNatClampNeg) 0).toNatClampNeg).toNatClampNeg) (mw_at (xk_lt (xk_V hn8) (by decide)) (xm_V (xk_V hn8) _ _)) rfl 1 (by decide) (htb _ k1_114) (fun _ h9 => h9) rfl dF_takeInVote_47 ?_
    refine lv_icmp_gt (tgt := 81) hx hb dF_takeInVote_50 (by decide) (fun hc => ?_) (fun hc => ?_)
    · have h := h.1 hc
      refine lv_aload_n hx hb dF_takeInVote_81 rfl (lv_at hl 3 rfl) ?_
      refine va_get (D := D) (ci := 2) (v := .ref (ad (j1 + 2))) (C := RN) (T := TN) (N := 5) hx hb htb inN hown hK hP j1 (mw_at (xk_lt hk1 (by decide)) (xm_N hk1 _ _)) rfl 2 (by decide) (htb _ k1_143) (fun _ h9 => h9) rfl dF_takeInVote_82 ?_
      refine lv_iload_n hx hb dF_takeInVote_85 rfl (lv_at hl 1 rfl) ?_
      refine lv_iload_n hx hb dF_takeInVote_86 rfl (lv_at hl 4 rfl) ?_
      obtain ⟨hn9, h⟩ := h
      refine mr_iast hx hb hK hP hD hS (j1 + 2) 0 (xk_lt (xk_NL hk1) (by decide)) (fun f => xm_7 (xk_NL hk1) f _) rfl hn9 dF_takeInVote_87 (fun H locs hP hS => ?_)
      generalize heI10 : mu I4 (j1 + 2) (I0 (364 + a2.toNatClampNeg) 0).toNatClampNeg a2 = I10 at hP
      have h := h I10 heI10.symm
      exact me_v hx hb hr hlk hP hS h dF_takeInVote_88
    · have h := h.2 hc
      refine lv_aload_n hx hb dF_takeInVote_53 rfl (lv_at hl 2 rfl) ?_
      refine va_get (D := D) (ci := 5) (v := .ref (ad 363)) (C := RF) (T := TF) (N := 11) hx hb htb inF hown hK hP 0 (mw_at (xk_lt (show xk 0 = 0 from rfl) (by decide)) (xm_F (show xk 0 = 0 from rfl) _ _)) rfl 6 (by decide) (htb _ k1_168) (fun _ h9 => h9) rfl dF_takeInVote_54 ?_
      refine lv_iload_n hx hb dF_takeInVote_57 rfl (lv_at hl 4 rfl) ?_
      obtain ⟨hn11, h⟩ := h
      refine mr_aald hx hb hK hP 363 3 (xk_lt (show xk 363 = 7 from rfl) (by decide)) (xm_VA (show xk 363 = 7 from rfl) _ _) rfl hn11 dF_takeInVote_58 ?_
      refine va_get (D := D) (ci := 4) (v := .int (I4 (364 + a2.toNatClampNeg) 1)) (C := RV) (T := TV) (N := 5) hx hb htb inV hown hK hP (364 + a2.toNatClampNeg) (mw_at (xk_lt (xk_V hn11) (by decide)) (xm_V (xk_V hn11) _ _)) rfl 1 (by decide) (htb _ k1_114) (fun _ h9 => h9) rfl dF_takeInVote_59 ?_
      refine lv_aload_n hx hb dF_takeInVote_62 rfl (lv_at hl 2 rfl) ?_
      refine va_get (D := D) (ci := 5) (v := .ref (ad 363)) (C := RF) (T := TF) (N := 11) hx hb htb inF hown hK hP 0 (mw_at (xk_lt (show xk 0 = 0 from rfl) (by decide)) (xm_F (show xk 0 = 0 from rfl) _ _)) rfl 6 (by decide) (htb _ k1_168) (fun _ h9 => h9) rfl dF_takeInVote_63 ?_
      refine lv_iload hx hb dF_takeInVote_66 (lv_at hl 0 rfl) ?_
      obtain ⟨hn12, h⟩ := h
      refine mr_aald hx hb hK hP 363 3 (xk_lt (show xk 363 = 7 from rfl) (by decide)) (xm_VA (show xk 363 = 7 from rfl) _ _) rfl hn12 dF_takeInVote_68 ?_
      refine va_get (D := D) (ci := 4) (v := .int (I4 (364 + (I0 (j1 + 2) (I0 (364 + a2.toNatClampNeg) 0).toNatClampNeg).toNatClampNeg) 1)) (C := RV) (T := TV) (N := 5) hx hb htb inV hown hK hP (364 + (I0 (j1 + 2) (I0 (364 + a2.toNatClampNeg) 0).toNatClampNeg).toNatClampNeg) (mw_at (xk_lt (xk_V hn12) (by decide)) (xm_V (xk_V hn12) _ _)) rfl 1 (by decide) (htb _ k1_114) (fun _ h9 => h9) rfl dF_takeInVote_69 ?_
      refine lv_icmp_ne (tgt := 88) hx hb dF_takeInVote_72 (by decide) (fun hc => ?_) (fun hc => ?_)
      · have h := h.1 hc
        exact me_v hx hb hr hlk hP hS h dF_takeInVote_88
      · have h := h.2 hc
        refine lv_iload_n hx hb dF_takeInVote_75 rfl (lv_at hl 4 rfl) ?_
        refine lv_iload hx hb dF_takeInVote_76 (lv_at hl 0 rfl) ?_
        refine lv_icmp_le (tgt := 88) hx hb dF_takeInVote_78 (by decide) (fun hc => ?_) (fun hc => ?_)
        · have h := h.1 hc
          exact me_v hx hb hr hlk hP hS h dF_takeInVote_88
        · have h := h.2 hc
          refine lv_aload_n hx hb dF_takeInVote_81 rfl (lv_at hl 3 rfl) ?_
          refine va_get (D := D) (ci := 2) (v := .ref (ad (j1 + 2))) (C := RN) (T := TN) (N := 5) hx hb htb inN hown hK hP j1 (mw_at (xk_lt hk1 (by decide)) (xm_N hk1 _ _)) rfl 2 (by decide) (htb _ k1_143) (fun _ h9 => h9) rfl dF_takeInVote_82 ?_
          refine lv_iload_n hx hb dF_takeInVote_85 rfl (lv_at hl 1 rfl) ?_
          refine lv_iload_n hx hb dF_takeInVote_86 rfl (lv_at hl 4 rfl) ?_
          obtain ⟨hn13, h⟩ := h
          refine mr_iast hx hb hK hP hD hS (j1 + 2) 0 (xk_lt (xk_NL hk1) (by decide)) (fun f => xm_7 (xk_NL hk1) f _) rfl hn13 dF_takeInVote_87 (fun H locs hP hS => ?_)
          generalize heI14 : mu I4 (j1 + 2) (I0 (364 + a2.toNatClampNeg) 0).toNatClampNeg a2 = I14 at hP
          have h := h I14 heI14.symm
          exact me_v hx hb hr hlk hP hS h dF_takeInVote_88
def wp_F_takeInVotes_2 (K2 : mI → mJ → Int32 → Prop) (R : mI → mJ → Prop) (I : mI) (J : mJ) (j1 : Nat) (j2 : Nat) (x3 : Int32) : Prop :=
  (((I j2 2) ≤ x3 → R I J) ∧ (¬ ((I j2 2) ≤ x3) → (vp_in x3 4 ∧ (∃ (S2 : mI), (pF_takeInVote S2 I J j1 (I (j2 + 1) x3.toNatClampNeg) ∧ (∀ (I5 : mI) (J6 : mJ), qF_takeInVote S2 I J j1 (I (j2 + 1) x3.toNatClampNeg) I5 J6 → (vp_in x3 4 ∧ (((I5 (j2 + 2) x3.toNatClampNeg) = (-1) → K2 I5 J6 (x3 + 1)) ∧ (¬ ((I5 (j2 + 2) x3.toNatClampNeg) = (-1)) → (vp_in x3 4 ∧ (∃ (S9 : mI), (pF_takeInVote S9 I5 J6 j1 (I5 (j2 + 2) x3.toNatClampNeg) ∧ (∀ (I12 : mI) (J13 : mJ), qF_takeInVote S9 I5 J6 j1 (I5 (j2 + 2) x3.toNatClampNeg) I12 J13 → K2 I12 J13 (x3 + 1))))))))))))))
def wp_F_takeInVotes (K2 : mI → mJ → Int32 → Prop) (R : mI → mJ → Prop) (I0 : mI) (J0 : mJ) (j1 : Nat) (j2 : Nat) : Prop :=
  K2 I0 J0 0
theorem P_F_takeInVotes (S : mI) (I0 : mI) (J0 : mJ) (j1 : Nat) (j2 : Nat) (hk1 : xk j1 = 10) (hk2 : xk j2 = 4) (hp : pF_takeInVotes S I0 J0 j1 j2) (K2 : mI → mJ → Int32 → Prop) (R : mI → mJ → Prop) (c2 : ∀ (I : mI) (J : mJ) (x3 : Int32), wp_F_takeInVotes_2 K2 R I J j1 j2 x3 → K2 I J x3) (hR : ∀ (I' : mI) (J' : mJ), qF_takeInVotes S I0 J0 j1 j2 I' J' → R I' J') : wp_F_takeInVotes K2 R I0 J0 j1 j2 := by
  obtain ⟨hX, ⟨n, hn, rfl⟩, ⟨b, hb0, rfl⟩⟩ := hp
  have hb := hX.1.b
  have hB := hX.1.2.1 b hb0
  unfold qF_takeInVotes at hR
  rw [iN_n, iBk_b] at hR
  have key : ∀ m k I J, k + m = zIc S b → XR (zItems S n b k) I J → K2 I J (nI k) := by
    intro m
    induction m with
    | zero =>
      intro k I J hk hT
      have hk : k = zIc S b := by omega
      subst hk
      have hT2 := hT.2.2.2.1 b (by rw [bc_of (by rw [zItems_row S n b _ (by omega)])]; exact hb0)
      apply c2
      unfold wp_F_takeInVotes_2
      rw [hT2.2.2.2.2.1, zItems_row S n b _ (by omega), hB.2.2.1]
      exact ⟨fun _ => hR _ _ hT, fun h => absurd (nI_le (Nat.le_refl _) (by omega)) h⟩
    | succ m ih =>
      intro k I J hk hT
      have r0 : zItems S n b k 0 = S 0 := zItems_row S n b k (by omega)
      have r4 : zItems S n b k 4 = S 4 := zItems_row S n b k (by omega)
      have r5 : zItems S n b k 5 = S 5 := zItems_row S n b k (by omega)
      have ebc : zBc (zItems S n b k) = zBc S := bc_of (by rw [r0])
      have evc : zVc (zItems S n b k) = zVc S := vc_of (by rw [r0])
      have eic : zIc (zItems S n b k) b = zIc S b := by unfold zIc; rw [r4]
      have hT2 := hT.2.2.2.1 b (by rw [ebc]; exact hb0)
      have hE := hT2.2.2.2.2.2.1 k (by rw [eic]; omega)
      rw [r5] at hE
      have hI := hB.2.2.2.2.2.2 k (by omega)
      have hx : zIt S b k = cN (S 5 (4 * b + k)) := rfl
      have k4 : vp_in (nI k) 4 := vp_in_nI (by omega) (by omega)
      have ek : (nI k).toNatClampNeg = k := nI_clamp (by omega)
      apply c2
      unfold wp_F_takeInVotes_2
      rw [hT2.2.2.2.2.1, r4, hB.2.2.1, ek, nI_1]
      refine ⟨fun h => absurd h (nI_ge (by omega) (by omega)), fun _ => ⟨k4, zItems S n b k, ?_⟩⟩
      have nxt : ∀ I J, XR (zItem (zItems S n b k) n (zIt S b k)) I J → K2 I J (nI (k + 1)) := fun I J h => ih (k + 1) I J (by omega) h
      rcases hI.2 with hv | ⟨o, t, ho, ht, eo⟩
      · -- a vote
        rcases hE with ⟨q1, q2, q3⟩ | ⟨q1, q2, q3⟩
        · rw [q2, hI.1]
          refine ⟨⟨hT, ⟨n, hn, rfl⟩, ⟨_, by rw [evc]; exact hv, rfl⟩⟩, fun I5 J6 hq => ⟨k4, ?_⟩⟩
          unfold qF_takeInVote at hq
          rw [iN_n, cN_nI (by omega)] at hq
          have e2 : zItem (zItems S n b k) n (zIt S b k) = zHear (zItems S n b k) n (cN (S 5 (4 * b + k))) := by unfold zItem; rw [hx, if_pos (by omega)]
          have hE5 := (hq.2.2.2.1 b (by show b < zBc (zItems S n b k); rw [ebc]; exact hb0)).2.2.2.2.2.1 k (by show k < zIc (zItems S n b k) b; rw [eic]; omega)
          have hE5 : encIt (S 5 (4 * b + k)) (I5 (3 + 6 * b + 1 + 1) k) (I5 (3 + 6 * b + 1 + 2) k) := by
            rw [← r5]; exact hE5
          rcases hE5 with ⟨-, -, w3⟩ | ⟨w1, -, -⟩
          · rw [w3]
            exact ⟨fun _ => nxt _ _ (by rw [e2]; exact hq), fun h => absurd rfl h⟩
          · omega
        · omega
      · rcases hE with ⟨q1, q2, q3⟩ | ⟨q1, q2, q3⟩
        · omega
        · have eo1 : cN (S 5 (4 * b + k)) % 100 = o := by omega
          have et1 : cN (S 5 (4 * b + k)) / 100 - 1 = t := by omega
          rw [q2, eo1]
          refine ⟨⟨hT, ⟨n, hn, rfl⟩, ⟨o, by rw [evc]; exact ho, rfl⟩⟩, fun I5 J6 hq => ⟨k4, ?_⟩⟩
          unfold qF_takeInVote at hq
          rw [iN_n, cN_nI (by omega)] at hq
          have hE5 := (hq.2.2.2.1 b (by show b < zBc (zItems S n b k); rw [ebc]; exact hb0)).2.2.2.2.2.1 k (by show k < zIc (zItems S n b k) b; rw [eic]; omega)
          have hE5 : encIt (S 5 (4 * b + k)) (I5 (3 + 6 * b + 1 + 1) k) (I5 (3 + 6 * b + 1 + 2) k) := by
            rw [← r5]; exact hE5
          rcases hE5 with ⟨w1, -, -⟩ | ⟨-, -, w3⟩
          · omega
          · rw [w3, et1]
            refine ⟨fun h => absurd h (oI_ne (k := t) (by omega)), fun _ => ⟨k4, zHear (zItems S n b k) n o, ⟨hq, ⟨n, hn, rfl⟩, ⟨t, by show t < zVc (zItems S n b k); rw [evc]; exact ht, rfl⟩⟩, fun I12 J13 hq2 => nxt _ _ ?_⟩⟩
            unfold qF_takeInVote at hq2
            rw [iN_n, cN_nI (by omega)] at hq2
            unfold zItem
            rw [hx, if_neg (by omega), eo1, et1]
            exact hq2
  exact key (zIc S b) 0 I0 J0 (by omega) hX
set_option maxHeartbeats 4000000 in
set_option maxRecDepth 100000 in
theorem C_F_takeInVotes (l : Launch) (D : va_G) (ca : Nat → Nat) (ad : Nat → Nat) (S : mI) (I0 : mI) (J0 : mJ) (j1 : Nat) (j2 : Nat) (hk1 : xk j1 = 10) (hk2 : xk j2 = 4) (hp : pF_takeInVotes S I0 J0 j1 j2) : Met l yF_takeInVotes wF_takeInVotes ({ frames := 1, cells := 0, slots := 0, locals := 24 } : Room) (va_Pc [.ref (ad 0), .ref (ad j1), .ref (ad j2)] (mPre D vwCl (xty ca) 459 ad (xmk ca ad) nL I0 J0)) (mQv D vwCl 459 ad (xmk ca ad) (qF_takeInVotes S I0 J0 j1 j2)) 0 0 (mA 459 ad) := by
  refine Met.ofW (cc := cF_takeInVotes) (maxL := 4) (ret := none) (by decide) rfl ?_
  intro p e s m args below meth c s₁ B hml hv
  obtain ⟨rfl, hP, hK, hD0, hN⟩ := hv
  have hx := B.exec
  have hb := B.bytes
  have hr := B.returns
  have htb : ∀ w ∈ wb, w.before _ s = true := fun w h => atoms_spec (ws := wF_takeInVotes) B.pre w (List.mem_cons_of_mem _ h)
  have hown : s.vm.findClass RF = some m.cls := findClass_of_methodNamed B.named
  have hlk := B.notSynchronized
  have hD := mw_Dm hD0
  have hS : va_S (mA 459 ad) s.heap s.heap [] := va_S.rf
  have hl := lv_entry ([.ref (ad 0), .ref (ad j1), .ref (ad j2)]) (n := 4) (Nat.le_of_ble_eq_true rfl)
  rw [lg_entry_eq]
  generalize (lg_sl ([.ref (ad 0), .ref (ad j1), .ref (ad j2)]) ++ List.replicate (4 - (lg_sl ([.ref (ad 0), .ref (ad j1), .ref (ad j2)])).length) Slot.unset).toArray = ls at hl ⊢
  have hl : lv_has ls 4 [(0, .ref (ad 0)), (1, .ref (ad j1)), (2, .ref (ad j2))] := hl
  obtain ⟨K2, hK2⟩ : ∃ K : mI → mJ → Int32 → Prop, K = (fun I J x3 => ∀ (H : Heap) (locs : List Loc) (ls : Array Slot), va_P D vwCl (mw 459 ad (xmk ca ad) I J) H → va_S (mA 459 ad) s.heap H locs → lv_has ls 4 [(0, .ref (ad 0)), (1, .ref (ad j1)), (2, .ref (ad j2)), (3, .int x3)] → W p l e (headSpec wF_takeInVotes ({ frames := 1, cells := 0, slots := 0, locals := 24 } : Room)).room s m (([.ref (ad 0), .ref (ad j1), .ref (ad j2)] : List Value).toArray) below meth c H locs 0 0 (MQ below (mQv D vwCl 459 ad (xmk ca ad) (qF_takeInVotes S I0 J0 j1 j2)) (([.ref (ad 0), .ref (ad j1), .ref (ad j2)] : List Value).toArray) s 0 0 (mA 459 ad)) (F0 m 2 ls [])) := ⟨_, rfl⟩
  have c2 : ∀ (I : mI) (J : mJ) (x3 : Int32), wp_F_takeInVotes_2 K2 (qF_takeInVotes S I0 J0 j1 j2) I J j1 j2 x3 → K2 I J x3 := by
    intro I J x3 h
    rw [hK2]
    intro H locs ls hP hS hl
    unfold wp_F_takeInVotes_2 at h
    refine lv_iload_n hx hb dF_takeInVotes_2 rfl (lv_at hl 3 rfl) ?_
    refine lv_aload_n hx hb dF_takeInVotes_3 rfl (lv_at hl 2 rfl) ?_
    refine va_get (D := D) (ci := 1) (v := .int (I j2 2)) (C := RI) (T := TI) (N := 3) hx hb htb inI hown hK hP j2 (mw_at (xk_lt hk2 (by decide)) (xm_I hk2 _ _)) rfl 2 (by decide) (htb _ k1_42) (fun _ h9 => h9) rfl dF_takeInVotes_4 ?_
    refine lv_icmp_ge (tgt := 48) hx hb dF_takeInVotes_7 (by decide) (fun hc => ?_) (fun hc => ?_)
    · have h := h.1 hc
      exact me_v hx hb hr hlk hP hS h dF_takeInVotes_48
    · have h := h.2 hc
      refine lv_aload_n hx hb dF_takeInVotes_10 rfl (lv_at hl 0 rfl) ?_
      refine lv_aload_n hx hb dF_takeInVotes_11 rfl (lv_at hl 1 rfl) ?_
      refine lv_aload_n hx hb dF_takeInVotes_12 rfl (lv_at hl 2 rfl) ?_
      refine va_get (D := D) (ci := 1) (v := .ref (ad (j2 + 1))) (C := RI) (T := TI) (N := 3) hx hb htb inI hown hK hP j2 (mw_at (xk_lt hk2 (by decide)) (xm_I hk2 _ _)) rfl 0 (by decide) (htb _ k1_38) (fun _ h9 => h9) rfl dF_takeInVotes_13 ?_
      refine lv_iload_n hx hb dF_takeInVotes_16 rfl (lv_at hl 3 rfl) ?_
      obtain ⟨hn1, h⟩ := h
      refine mr_iald hx hb hK hP (j2 + 1) 0 (xk_lt (xk_I1 hk2) (by decide)) (xm_4 (xk_I1 hk2) _ _) rfl hn1 dF_takeInVotes_17 ?_
      obtain ⟨S2, h⟩ := h
      obtain ⟨hp3, h⟩ := h
      refine mc_v (va_runV (As := [.ref (ad j1), .int (I (j2 + 1) x3.toNatClampNeg)]) (rest := []) ⟨hx, hb, hml, hown, htb⟩ (C_F_takeInVote l D ca ad S2 I J j1 (I (j2 + 1) x3.toNatClampNeg) hk1 hp3) (cwV 2 htb (gd_v k2_106 k2_108 ks12 k1_1 k2_109) rfl rfl rfl (by decide +kernel) ⟨Nat.le_of_ble_eq_true rfl, Nat.le_of_ble_eq_true rfl⟩) (mPre_V hK hP hD hN rfl (mw_at (xk_lt (show xk 0 = 0 from rfl) (by decide)) (xm_F (show xk 0 = 0 from rfl) _ _))) rfl rfl hl.1 rfl (lv_room (Nat.le_of_ble_eq_true rfl)) dF_takeInVotes_18 ⟨Nat.le_of_ble_eq_true rfl, Nat.le_of_ble_eq_true rfl⟩) hS (fun I5 J6 H locs hpost hP hS => ?_)
      have h := h I5 J6 hpost
      refine lv_aload_n hx hb dF_takeInVotes_21 rfl (lv_at hl 2 rfl) ?_
      refine va_get (D := D) (ci := 1) (v := .ref (ad (j2 + 2))) (C := RI) (T := TI) (N := 3) hx hb htb inI hown hK hP j2 (mw_at (xk_lt hk2 (by decide)) (xm_I hk2 _ _)) rfl 1 (by decide) (htb _ k1_40) (fun _ h9 => h9) rfl dF_takeInVotes_22 ?_
      refine lv_iload_n hx hb dF_takeInVotes_25 rfl (lv_at hl 3 rfl) ?_
      obtain ⟨hn7, h⟩ := h
      refine mr_iald hx hb hK hP (j2 + 2) 0 (xk_lt (xk_I2 hk2) (by decide)) (xm_4 (xk_I2 hk2) _ _) rfl hn7 dF_takeInVotes_26 ?_
      refine lv_iconst (v := (-1)) hx hb dF_takeInVotes_27 (by decide) ?_
      refine lv_icmp_eq (tgt := 42) hx hb dF_takeInVotes_28 (by decide) (fun hc => ?_) (fun hc => ?_)
      · have h := h.1 hc
        refine lv_iinc (k := 3) (v := x3 + 1) (lv' := [(3, .int (x3 + 1)), (0, .ref (ad 0)), (1, .ref (ad j1)), (2, .ref (ad j2))]) hx hb dF_takeInVotes_42 hl rfl (by rfl) (by decide) rfl (fun ls hl => ?_)
        refine lv_goto (tgt := 2) hx hb dF_takeInVotes_45 (by decide) ?_
        rw [hK2] at h
        exact h _ _ _ hP hS (lv_sub hl [1, 2, 3, 0] rfl)
      · have h := h.2 hc
        refine lv_aload_n hx hb dF_takeInVotes_31 rfl (lv_at hl 0 rfl) ?_
        refine lv_aload_n hx hb dF_takeInVotes_32 rfl (lv_at hl 1 rfl) ?_
        refine lv_aload_n hx hb dF_takeInVotes_33 rfl (lv_at hl 2 rfl) ?_
        refine va_get (D := D) (ci := 1) (v := .ref (ad (j2 + 2))) (C := RI) (T := TI) (N := 3) hx hb htb inI hown hK hP j2 (mw_at (xk_lt hk2 (by decide)) (xm_I hk2 _ _)) rfl 1 (by decide) (htb _ k1_40) (fun _ h9 => h9) rfl dF_takeInVotes_34 ?_
        refine lv_iload_n hx hb dF_takeInVotes_37 rfl (lv_at hl 3 rfl) ?_
        obtain ⟨hn8, h⟩ := h
        refine mr_iald hx hb hK hP (j2 + 2) 0 (xk_lt (xk_I2 hk2) (by decide)) (xm_4 (xk_I2 hk2) _ _) rfl hn8 dF_takeInVotes_38 ?_
        obtain ⟨S9, h⟩ := h
        obtain ⟨hp10, h⟩ := h
        refine mc_v (va_runV (As := [.ref (ad j1), .int (I5 (j2 + 2) x3.toNatClampNeg)]) (rest := []) ⟨hx, hb, hml, hown, htb⟩ (C_F_takeInVote l D ca ad S9 I5 J6 j1 (I5 (j2 + 2) x3.toNatClampNeg) hk1 hp10) (cwV 2 htb (gd_v k2_106 k2_108 ks12 k1_1 k2_109) rfl rfl rfl (by decide +kernel) ⟨Nat.le_of_ble_eq_true rfl, Nat.le_of_ble_eq_true rfl⟩) (mPre_V hK hP hD hN rfl (mw_at (xk_lt (show xk 0 = 0 from rfl) (by decide)) (xm_F (show xk 0 = 0 from rfl) _ _))) rfl rfl hl.1 rfl (lv_room (Nat.le_of_ble_eq_true rfl)) dF_takeInVotes_39 ⟨Nat.le_of_ble_eq_true rfl, Nat.le_of_ble_eq_true rfl⟩) hS (fun I12 J13 H locs hpost hP hS => ?_)
        have h := h I12 J13 hpost
        refine lv_iinc (k := 3) (v := x3 + 1) (lv' := [(3, .int (x3 + 1)), (0, .ref (ad 0)), (1, .ref (ad j1)), (2, .ref (ad j2))]) hx hb dF_takeInVotes_42 hl rfl (by rfl) (by decide) rfl (fun ls hl => ?_)
        refine lv_goto (tgt := 2) hx hb dF_takeInVotes_45 (by decide) ?_
        rw [hK2] at h
        exact h _ _ _ hP hS (lv_sub hl [1, 2, 3, 0] rfl)
  have h := P_F_takeInVotes S I0 J0 j1 j2 hk1 hk2 hp K2 (qF_takeInVotes S I0 J0 j1 j2) c2 (fun _ _ h => h)
  unfold wp_F_takeInVotes at h
  refine lv_iconst (v := 0) hx hb dF_takeInVotes_0 (by decide) ?_
  refine lv_istore_n (lv' := [(3, .int 0), (0, .ref (ad 0)), (1, .ref (ad j1)), (2, .ref (ad j2))]) hx hb dF_takeInVotes_1 rfl hl (by decide) rfl (fun ls hl => ?_)
  rw [hK2] at h
  exact h _ _ _ hP hS (lv_sub hl [1, 2, 3, 0] rfl)
def wp_F_forgetBeside_2 (K2 : mI → mJ → Int32 → Prop) (R : mI → mJ → Prop) (I : mI) (J : mJ) (j1 : Nat) (a2 : Int32) (x3 : Int32) : Prop :=
  (((I 0 5) ≤ x3 → R I J) ∧ (¬ ((I 0 5) ≤ x3) → (∃ (S1 : mI), (pF_descends S1 I J x3 a2 ∧ ((¬ ((fF_descends S1 I J x3 a2) = 0) → K2 I J (x3 + 1)) ∧ ((fF_descends S1 I J x3 a2) = 0 → (∀ (J3 : mJ), J3 = mul J j1 0 ((J j1 0) &&& (((1 : Int64) <<< (x3.toInt64 &&& 63)) ^^^ (-1))) → K2 I J3 (x3 + 1))))))))
def wp_F_forgetBeside (K2 : mI → mJ → Int32 → Prop) (R : mI → mJ → Prop) (I0 : mI) (J0 : mJ) (j1 : Nat) (a2 : Int32) : Prop :=
  K2 I0 J0 0
theorem P_F_forgetBeside (S : mI) (I0 : mI) (J0 : mJ) (j1 : Nat) (a2 : Int32) (hk1 : xk j1 = 10) (hp : pF_forgetBeside S I0 J0 j1 a2) (K2 : mI → mJ → Int32 → Prop) (R : mI → mJ → Prop) (c2 : ∀ (I : mI) (J : mJ) (x3 : Int32), wp_F_forgetBeside_2 K2 R I J j1 a2 x3 → K2 I J x3) (hR : ∀ (I' : mI) (J' : mJ), qF_forgetBeside S I0 J0 j1 a2 I' J' → R I' J') : wp_F_forgetBeside K2 R I0 J0 j1 a2 := by
  obtain ⟨hX, ⟨n, hn, rfl⟩, ⟨r, hr0, rfl⟩⟩ := hp
  have hb := hX.1.b
  unfold qF_forgetBeside at hR
  rw [iN_n, cN_nI (by omega)] at hR
  have key : ∀ m k J, k + m = zBc S → XR (zFk S n r k) I0 J → K2 I0 J (nI k) := by
    intro m
    induction m with
    | zero =>
      intro k J hk hT
      have hk : k = zBc S := by omega
      subst hk
      apply c2
      unfold wp_F_forgetBeside_2
      rw [hX.bc]
      exact ⟨fun _ => hR _ _ ⟨rfl, hT⟩, fun h => absurd (nI_le (Nat.le_refl _) (by omega)) h⟩
    | succ m ih =>
      intro k J hk hT
      have ebc : zBc (zFk S n r k) = zBc S := bc_of (by rw [zFk_row S n r k (by omega)])
      have hag : zAg S (zFk S n r k) (zBc S) (zVc S) := zAg.rows (fun j h1 h2 h3 => zFk_row S n r k (by omega)) (by rw [zFk_row S n r k (by omega)]) (by rw [zFk_row S n r k (by omega)]) (by rw [zFk_row S n r k (by omega)]) _ _
      apply c2
      unfold wp_F_forgetBeside_2
      rw [hX.bc, nI_1]
      refine ⟨fun h => absurd h (nI_ge (by omega) (by omega)), fun _ => ⟨zFk S n r k, ⟨hT, ⟨k, by rw [ebc]; omega, rfl⟩, ⟨r, by omega, rfl⟩⟩, ?_⟩⟩
      unfold fF_descends
      rw [cN_nI (n := k) (by omega), cN_nI (n := r) (by omega), hag.d hX.1.up (Nat.le_refl _) (by omega)]
      refine ⟨fun h => ih (k + 1) J (by omega) ?_, fun h J3 e3 => ih (k + 1) J3 (by omega) (hT.fk hn (by omega) (bz_0.mp h) e3)⟩
      rw [zFk_keep S n r k (bz_n0.mp h)]
      exact hT
  exact key (zBc S) 0 J0 (by omega) (by rw [zFk_0]; exact hX)
set_option maxHeartbeats 4000000 in
set_option maxRecDepth 100000 in
theorem C_F_forgetBeside (l : Launch) (D : va_G) (ca : Nat → Nat) (ad : Nat → Nat) (S : mI) (I0 : mI) (J0 : mJ) (j1 : Nat) (a2 : Int32) (hk1 : xk j1 = 10) (hp : pF_forgetBeside S I0 J0 j1 a2) : Met l yF_forgetBeside wF_forgetBeside ({ frames := 1, cells := 0, slots := 0, locals := 22 } : Room) (va_Pc [.ref (ad 0), .ref (ad j1), .int a2] (mPre D vwCl (xty ca) 459 ad (xmk ca ad) nL I0 J0)) (mQv D vwCl 459 ad (xmk ca ad) (qF_forgetBeside S I0 J0 j1 a2)) 0 0 (mA 459 ad) := by
  refine Met.ofW (cc := cF_forgetBeside) (maxL := 4) (ret := none) (by decide) rfl ?_
  intro p e s m args below meth c s₁ B hml hv
  obtain ⟨rfl, hP, hK, hD0, hN⟩ := hv
  have hx := B.exec
  have hb := B.bytes
  have hr := B.returns
  have htb : ∀ w ∈ wb, w.before _ s = true := fun w h => atoms_spec (ws := wF_forgetBeside) B.pre w (List.mem_cons_of_mem _ h)
  have hown : s.vm.findClass RF = some m.cls := findClass_of_methodNamed B.named
  have hlk := B.notSynchronized
  have hD := mw_Dm hD0
  have hS : va_S (mA 459 ad) s.heap s.heap [] := va_S.rf
  have hl := lv_entry ([.ref (ad 0), .ref (ad j1), .int a2]) (n := 4) (Nat.le_of_ble_eq_true rfl)
  rw [lg_entry_eq]
  generalize (lg_sl ([.ref (ad 0), .ref (ad j1), .int a2]) ++ List.replicate (4 - (lg_sl ([.ref (ad 0), .ref (ad j1), .int a2])).length) Slot.unset).toArray = ls at hl ⊢
  have hl : lv_has ls 4 [(0, .ref (ad 0)), (1, .ref (ad j1)), (2, .int a2)] := hl
  obtain ⟨K2, hK2⟩ : ∃ K : mI → mJ → Int32 → Prop, K = (fun I J x3 => ∀ (H : Heap) (locs : List Loc) (ls : Array Slot), va_P D vwCl (mw 459 ad (xmk ca ad) I J) H → va_S (mA 459 ad) s.heap H locs → lv_has ls 4 [(0, .ref (ad 0)), (1, .ref (ad j1)), (2, .int a2), (3, .int x3)] → W p l e (headSpec wF_forgetBeside ({ frames := 1, cells := 0, slots := 0, locals := 22 } : Room)).room s m (([.ref (ad 0), .ref (ad j1), .int a2] : List Value).toArray) below meth c H locs 0 0 (MQ below (mQv D vwCl 459 ad (xmk ca ad) (qF_forgetBeside S I0 J0 j1 a2)) (([.ref (ad 0), .ref (ad j1), .int a2] : List Value).toArray) s 0 0 (mA 459 ad)) (F0 m 2 ls [])) := ⟨_, rfl⟩
  have c2 : ∀ (I : mI) (J : mJ) (x3 : Int32), wp_F_forgetBeside_2 K2 (qF_forgetBeside S I0 J0 j1 a2) I J j1 a2 x3 → K2 I J x3 := by
    intro I J x3 h
    rw [hK2]
    intro H locs ls hP hS hl
    unfold wp_F_forgetBeside_2 at h
    refine lv_iload_n hx hb dF_forgetBeside_2 rfl (lv_at hl 3 rfl) ?_
    refine lv_aload_n hx hb dF_forgetBeside_3 rfl (lv_at hl 0 rfl) ?_
    refine va_get (D := D) (ci := 5) (v := .int (I 0 5)) (C := RF) (T := TF) (N := 11) hx hb htb inF hown hK hP 0 (mw_at (xk_lt (show xk 0 = 0 from rfl) (by decide)) (xm_F (show xk 0 = 0 from rfl) _ _)) rfl 5 (by decide) (htb _ k1_167) (fun _ h9 => h9) rfl dF_forgetBeside_4 ?_
    refine lv_icmp_ge (tgt := 41) hx hb dF_forgetBeside_7 (by decide) (fun hc => ?_) (fun hc => ?_)
    · have h := h.1 hc
      exact me_v hx hb hr hlk hP hS h dF_forgetBeside_41
    · have h := h.2 hc
      refine lv_aload_n hx hb dF_forgetBeside_10 rfl (lv_at hl 0 rfl) ?_
      refine lv_iload_n hx hb dF_forgetBeside_11 rfl (lv_at hl 3 rfl) ?_
      refine lv_iload_n hx hb dF_forgetBeside_12 rfl (lv_at hl 2 rfl) ?_
      obtain ⟨S1, h⟩ := h
      obtain ⟨hp2, h⟩ := h
      refine mc_r (va_runV (As := [.int x3, .int a2]) (rest := []) ⟨hx, hb, hml, hown, htb⟩ (C_F_descends l D ca ad S1 I J x3 a2 hp2) (cwV 2 htb (gd_v k1_212 k1_214 ks3 k1_1 k1_215) rfl rfl rfl (by decide +kernel) ⟨Nat.le_of_ble_eq_true rfl, Nat.le_of_ble_eq_true rfl⟩) (mPre_V hK hP hD hN rfl (mw_at (xk_lt (show xk 0 = 0 from rfl) (by decide)) (xm_F (show xk 0 = 0 from rfl) _ _))) rfl rfl hl.1 rfl (lv_room (Nat.le_of_ble_eq_true rfl)) dF_forgetBeside_13 ⟨Nat.le_of_ble_eq_true rfl, Nat.le_of_ble_eq_true rfl⟩) hS (fun H locs hP hS => ?_)
      refine lv_if_ne (tgt := 35) hx hb dF_forgetBeside_16 (by decide) (fun hc => ?_) (fun hc => ?_)
      · have h := h.1 hc
        refine lv_iinc (k := 3) (v := x3 + 1) (lv' := [(3, .int (x3 + 1)), (0, .ref (ad 0)), (1, .ref (ad j1)), (2, .int a2)]) hx hb dF_forgetBeside_35 hl rfl (by rfl) (by decide) rfl (fun ls hl => ?_)
        refine lv_goto (tgt := 2) hx hb dF_forgetBeside_38 (by decide) ?_
        rw [hK2] at h
        exact h _ _ _ hP hS (lv_sub hl [1, 2, 3, 0] rfl)
      · have h := h.2 hc
        refine lv_aload_n hx hb dF_forgetBeside_19 rfl (lv_at hl 1 rfl) ?_
        refine lv_dup hx hb dF_forgetBeside_20 rfl ?_
        refine va_get (D := D) (ci := 2) (v := .long (J j1 0)) (C := RN) (T := TN) (N := 5) hx hb htb inN hown hK hP j1 (mw_at (xk_lt hk1 (by decide)) (xm_N hk1 _ _)) rfl 0 (by decide) (htb _ k1_139) (fun _ h9 => h9) rfl dF_forgetBeside_21 ?_
        refine lv_lconst (v := 1) hx hb dF_forgetBeside_24 (by decide) ?_
        refine lv_iload_n hx hb dF_forgetBeside_25 rfl (lv_at hl 3 rfl) ?_
        refine lv_lshl (v := (1 : Int64) <<< (x3.toInt64 &&& 63)) hx hb dF_forgetBeside_26 rfl ?_
        refine W.ldc2 (v := (-1)) hx hb hown (htb _ k2_118) rfl dF_forgetBeside_27 ?_
        refine W.eq (g2 := F0 m 30 ls [.long (-1), .long ((1 : Int64) <<< (x3.toInt64 &&& 63)), .long (J j1 0), .ref (ad j1)]) rfl ?_
        refine lv_lxor hx hb dF_forgetBeside_30 ?_
        refine lv_land hx hb dF_forgetBeside_31 ?_
        refine mr_putl hx hb htb inN tyN tyN_ok nmN hown hK hP hD hS j1 (xk_lt hk1 (by decide)) (xm_N hk1 _ _) rfl 0 (by decide) (htb _ k1_139) (fun _ h9 => h9) rfl (by decide +kernel) (Nat.le_of_ble_eq_true rfl) (xm_N hk1 _ _) dF_forgetBeside_32 (fun H locs hP hS => ?_)
        generalize heJ3 : mul J j1 0 ((J j1 0) &&& (((1 : Int64) <<< (x3.toInt64 &&& 63)) ^^^ (-1))) = J3 at hP
        have h := h J3 heJ3.symm
        refine lv_iinc (k := 3) (v := x3 + 1) (lv' := [(3, .int (x3 + 1)), (0, .ref (ad 0)), (1, .ref (ad j1)), (2, .int a2)]) hx hb dF_forgetBeside_35 hl rfl (by rfl) (by decide) rfl (fun ls hl => ?_)
        refine lv_goto (tgt := 2) hx hb dF_forgetBeside_38 (by decide) ?_
        rw [hK2] at h
        exact h _ _ _ hP hS (lv_sub hl [1, 2, 3, 0] rfl)
  have h := P_F_forgetBeside S I0 J0 j1 a2 hk1 hp K2 (qF_forgetBeside S I0 J0 j1 a2) c2 (fun _ _ h => h)
  unfold wp_F_forgetBeside at h
  refine lv_iconst (v := 0) hx hb dF_forgetBeside_0 (by decide) ?_
  refine lv_istore_n (lv' := [(3, .int 0), (0, .ref (ad 0)), (1, .ref (ad j1)), (2, .int a2)]) hx hb dF_forgetBeside_1 rfl hl (by decide) rfl (fun ls hl => ?_)
  rw [hK2] at h
  exact h _ _ _ hP hS (lv_sub hl [1, 2, 3, 0] rfl)
def wp_F_takeInCheckpoints (R : mI → mJ → Prop) (I0 : mI) (J0 : mJ) (j1 : Nat) (j2 : Nat) : Prop :=
  (((fF_epochOf I0 J0 (I0 j2 3)) ≤ (fF_epochOf I0 J0 (I0 j1 4)) → ((¬ ((0 : Int32) = 0) → (∀ (I3 : mI), I3 = mu I0 j1 3 (I0 j2 2) → R I3 J0)) ∧ ((0 : Int32) = 0 → (((fF_epochOf I0 J0 (I0 j2 2)) ≤ (fF_epochOf I0 J0 (I0 j1 3)) → R I0 J0) ∧ (¬ ((fF_epochOf I0 J0 (I0 j2 2)) ≤ (fF_epochOf I0 J0 (I0 j1 3))) → (∀ (I6 : mI), I6 = mu I0 j1 3 (I0 j2 2) → R I6 J0)))))) ∧ (¬ ((fF_epochOf I0 J0 (I0 j2 3)) ≤ (fF_epochOf I0 J0 (I0 j1 4))) → (∀ (I7 : mI), I7 = mu I0 j1 4 (I0 j2 3) → (∃ (S9 : mI), (pF_forgetBeside S9 I7 J0 j1 (fF_blockOf I7 J0 (I7 j2 3)) ∧ (∀ (I12 : mI) (J13 : mJ), qF_forgetBeside S9 I7 J0 j1 (fF_blockOf I7 J0 (I7 j2 3)) I12 J13 → ((¬ ((fN_isKnown I12 J13 j1 (fF_blockOf I12 J13 (I12 j1 3))) = 0) → ((¬ ((0 : Int32) = 0) → (∀ (I16 : mI), I16 = mu I12 j1 3 (I12 j2 2) → R I16 J13)) ∧ ((0 : Int32) = 0 → (((fF_epochOf I12 J13 (I12 j2 2)) ≤ (fF_epochOf I12 J13 (I12 j1 3)) → R I12 J13) ∧ (¬ ((fF_epochOf I12 J13 (I12 j2 2)) ≤ (fF_epochOf I12 J13 (I12 j1 3))) → (∀ (I19 : mI), I19 = mu I12 j1 3 (I12 j2 2) → R I19 J13)))))) ∧ ((fN_isKnown I12 J13 j1 (fF_blockOf I12 J13 (I12 j1 3))) = 0 → ((¬ ((1 : Int32) = 0) → (∀ (I20 : mI), I20 = mu I12 j1 3 (I12 j2 2) → R I20 J13)) ∧ ((1 : Int32) = 0 → (((fF_epochOf I12 J13 (I12 j2 2)) ≤ (fF_epochOf I12 J13 (I12 j1 3)) → R I12 J13) ∧ (¬ ((fF_epochOf I12 J13 (I12 j2 2)) ≤ (fF_epochOf I12 J13 (I12 j1 3))) → (∀ (I23 : mI), I23 = mu I12 j1 3 (I12 j2 2) → R I23 J13)))))))))))))
theorem P_F_takeInCheckpoints (S : mI) (I0 : mI) (J0 : mJ) (j1 : Nat) (j2 : Nat) (hk1 : xk j1 = 10) (hk2 : xk j2 = 6) (hp : pF_takeInCheckpoints S I0 J0 j1 j2)  (R : mI → mJ → Prop)  (hR : ∀ (I' : mI) (J' : mJ), qF_takeInCheckpoints S I0 J0 j1 j2 I' J' → R I' J') : wp_F_takeInCheckpoints R I0 J0 j1 j2 := by
  obtain ⟨hX, ⟨n, hn, rfl⟩, ⟨b, hb0, rfl⟩⟩ := hp
  have hb := hX.1.b
  have hg := hX.1.g hb0
  unfold gW at hg
  have hE := (hX.2.2.2.1 b hb0).2.2.2.2.2.2
  have hN := hX.1.n hn (k := 0) (by omega)
  rw [show 2 * n + 0 = 2 * n from rfl] at hN
  have hM := hX.1.n hn (k := 1) (by omega)
  unfold qF_takeInCheckpoints at hR
  rw [iN_n, iBs_b] at hR
  unfold wp_F_takeInCheckpoints fF_epochOf fF_blockOf fN_isKnown
  rw [hE.2.2.1, hE.2.2.2.1, hX.n3 hn, hX.n4 hn, fEp_ck (by omega) (by omega), fEp_ck (by omega) (by omega), fEp_ck (by omega) (by omega), fEp_ck (by omega) (by omega)]
  refine ⟨fun h => ?_, fun h I7 e7 => ?_⟩
  · rw [nI_leI (by omega) (by omega)] at h
    have t1 : zTk1 S n b = S := by unfold zTk1; rw [if_neg (by omega)]
    unfold zTake at hR
    rw [t1] at hR
    unfold zTk2 at hR
    refine ⟨fun z => absurd rfl z, fun _ => ⟨fun h2 => ?_, fun h2 I6 e6 => ?_⟩⟩
    · rw [nI_leI (by omega) (by omega)] at h2
      rw [if_neg (fun z => by omega)] at hR
      exact hR _ _ hX
    · rw [nI_leI (by omega) (by omega)] at h2
      rw [if_pos (Or.inr (by omega))] at hR
      exact hR _ _ (hX.setn (k := 0) hn (by omega) hg.2.1 hg.2.2.1 e6)
  · rw [nI_leI (by omega) (by omega)] at h
    have h7 := hX.setn (k := 1) hn (by omega) hg.2.2.2.1 hg.2.2.2.2.1 e7
    have r7 : I7 (3 + 6 * b + 4) = I0 (3 + 6 * b + 4) := by rw [e7]; exact mu_other _ _ _ (by omega)
    rw [r7, hE.2.2.2.1, ck_bl (by omega) (by omega)]
    refine ⟨_, ⟨h7, ⟨n, hn, rfl⟩, ⟨gFb (gS S b), hg.2.2.2.2.1, rfl⟩⟩, fun I12 J13 hq => ?_⟩
    unfold qF_forgetBeside at hq
    rw [iN_n, cN_nI (by omega)] at hq
    obtain ⟨rfl, hq⟩ := hq
    have t1 : zTk1 S n b = zFor (mu (mu S 16 (2 * n + 1) (nI (gFe (gS S b)))) 17 (2 * n + 1) (nI (gFb (gS S b)))) n (gFb (gS S b)) := by unfold zTk1; rw [if_pos (by omega)]
    rw [← t1] at hq
    have hN2 := hq.1.n hn (k := 0) (by omega)
    rw [show 2 * n + 0 = 2 * n from rfl] at hN2
    have eb2 : zBc (zTk1 S n b) = zBc S := by rw [t1]; rfl
    have ene : zNe (zTk1 S n b) (2 * n) = zNe S (2 * n) := by
      rw [t1]
      show cN (if 2 * n = 2 * n + 1 then nI (gFe (gS S b)) else S 16 (2 * n)) = _
      rw [if_neg (by omega)]
      rfl
    rw [r7, hE.2.2.1, hq.n3 hn, ck_bl (by omega) (by omega), fEp_ck (by omega) (by omega), fEp_ck (by omega) (by omega), fLit_bz _ (by omega), hq.kn hn (by omega)]
    unfold zTake at hR
    unfold zTk2 at hR
    have done : (¬ (zNe (zTk1 S n b) (2 * n) < gJe (gS S b)) → zKn (zTk1 S n b) n (zNb (zTk1 S n b) (2 * n)) = true → R I12 J13) := fun z1 z2 => by
      rw [if_neg (fun z => z.elim (fun y => by rw [z2] at y; exact absurd y.2 (by decide)) z1)] at hR
      exact hR _ _ hq
    have set : ∀ I9, I9 = mu I12 (445 + 3 * n) 3 (nI (64 * gJe (gS S b) + gJb (gS S b))) → ((zNe S (2 * n + 1) < gFe (gS S b) ∧ zKn (zTk1 S n b) n (zNb (zTk1 S n b) (2 * n)) = false) ∨ zNe (zTk1 S n b) (2 * n) < gJe (gS S b)) → R I9 J13 := fun I9 e9 c => by
      rw [if_pos c] at hR
      exact hR _ _ (hq.setn (k := 0) hn (by omega) hg.2.1 (by rw [eb2]; exact hg.2.2.1) e9)
    refine ⟨fun hk => ⟨fun z => absurd rfl z, fun _ => ⟨fun h2 => done ?_ (bz_n0.mp hk), fun h2 I19 e19 => set I19 e19 (Or.inr ?_)⟩⟩, fun hk => ⟨fun _ I20 e20 => set I20 e20 (Or.inl ⟨by omega, bz_0.mp hk⟩), fun z => absurd z (by decide)⟩⟩
    · rw [nI_leI (by omega) (by omega)] at h2
      omega
    · rw [nI_leI (by omega) (by omega)] at h2
      omega
set_option maxHeartbeats 4000000 in
set_option maxRecDepth 100000 in
theorem C_F_takeInCheckpoints (l : Launch) (D : va_G) (ca : Nat → Nat) (ad : Nat → Nat) (S : mI) (I0 : mI) (J0 : mJ) (j1 : Nat) (j2 : Nat) (hk1 : xk j1 = 10) (hk2 : xk j2 = 6) (hp : pF_takeInCheckpoints S I0 J0 j1 j2) : Met l yF_takeInCheckpoints wF_takeInCheckpoints ({ frames := 2, cells := 0, slots := 0, locals := 45 } : Room) (va_Pc [.ref (ad 0), .ref (ad j1), .ref (ad j2)] (mPre D vwCl (xty ca) 459 ad (xmk ca ad) nL I0 J0)) (mQv D vwCl 459 ad (xmk ca ad) (qF_takeInCheckpoints S I0 J0 j1 j2)) 0 0 (mA 459 ad) := by
  refine Met.ofW (cc := cF_takeInCheckpoints) (maxL := 4) (ret := none) (by decide) rfl ?_
  intro p e s m args below meth c s₁ B hml hv
  obtain ⟨rfl, hP, hK, hD0, hN⟩ := hv
  have hx := B.exec
  have hb := B.bytes
  have hr := B.returns
  have htb : ∀ w ∈ wb, w.before _ s = true := fun w h => atoms_spec (ws := wF_takeInCheckpoints) B.pre w (List.mem_cons_of_mem _ h)
  have hown : s.vm.findClass RF = some m.cls := findClass_of_methodNamed B.named
  have hlk := B.notSynchronized
  have hD := mw_Dm hD0
  have hS : va_S (mA 459 ad) s.heap s.heap [] := va_S.rf
  have hl := lv_entry ([.ref (ad 0), .ref (ad j1), .ref (ad j2)]) (n := 4) (Nat.le_of_ble_eq_true rfl)
  rw [lg_entry_eq]
  generalize (lg_sl ([.ref (ad 0), .ref (ad j1), .ref (ad j2)]) ++ List.replicate (4 - (lg_sl ([.ref (ad 0), .ref (ad j1), .ref (ad j2)])).length) Slot.unset).toArray = ls at hl ⊢
  have hl : lv_has ls 4 [(0, .ref (ad 0)), (1, .ref (ad j1)), (2, .ref (ad j2))] := hl
  have h := P_F_takeInCheckpoints S I0 J0 j1 j2 hk1 hk2 hp  (qF_takeInCheckpoints S I0 J0 j1 j2)  (fun _ _ h => h)
  unfold wp_F_takeInCheckpoints at h
  refine lv_iconst (v := 0) hx hb dF_takeInCheckpoints_0 (by decide) ?_
  refine lv_istore_n (lv' := [(3, .int 0), (0, .ref (ad 0)), (1, .ref (ad j1)), (2, .ref (ad j2))]) hx hb dF_takeInCheckpoints_1 rfl hl (by decide) rfl (fun ls hl => ?_)
  refine lv_aload_n hx hb dF_takeInCheckpoints_2 rfl (lv_at hl 3 rfl) ?_
  refine va_get (D := D) (ci := 3) (v := .int (I0 j2 3)) (C := RS) (T := TS) (N := 7) hx hb htb inS hown hK hP j2 (mw_at (xk_lt hk2 (by decide)) (xm_S hk2 _ _)) rfl 3 (by decide) (htb _ k1_64) (fun _ h9 => h9) rfl dF_takeInCheckpoints_3 ?_
  refine mc_r (va_runS (As := [.int (I0 j2 3)]) (rest := []) ⟨hx, hb, hml, hown, htb⟩ (C_F_epochOf l D ca ad I0 J0 (I0 j2 3)) (va_cwS 1 htb (gd_s k1_219 k1_220 k1_1 k1_221) rfl rfl rfl (by decide +kernel) ⟨Nat.le_of_ble_eq_true rfl, Nat.le_of_ble_eq_true rfl⟩) (mPre_S hK hP hD hN) rfl rfl hl.1 rfl (lv_room (Nat.le_of_ble_eq_true rfl)) dF_takeInCheckpoints_6 ⟨Nat.le_of_ble_eq_true rfl, Nat.le_of_ble_eq_true rfl⟩) hS (fun H locs hP hS => ?_)
  refine lv_aload_n hx hb dF_takeInCheckpoints_9 rfl (lv_at hl 2 rfl) ?_
  refine va_get (D := D) (ci := 2) (v := .int (I0 j1 4)) (C := RN) (T := TN) (N := 5) hx hb htb inN hown hK hP j1 (mw_at (xk_lt hk1 (by decide)) (xm_N hk1 _ _)) rfl 4 (by decide) (htb _ k1_145) (fun _ h9 => h9) rfl dF_takeInCheckpoints_10 ?_
  refine mc_r (va_runS (As := [.int (I0 j1 4)]) (rest := [.int (fF_epochOf I0 J0 (I0 j2 3))]) ⟨hx, hb, hml, hown, htb⟩ (C_F_epochOf l D ca ad I0 J0 (I0 j1 4)) (va_cwS 1 htb (gd_s k1_219 k1_220 k1_1 k1_221) rfl rfl rfl (by decide +kernel) ⟨Nat.le_of_ble_eq_true rfl, Nat.le_of_ble_eq_true rfl⟩) (mPre_S hK hP hD hN) rfl rfl hl.1 rfl (lv_room (Nat.le_of_ble_eq_true rfl)) dF_takeInCheckpoints_13 ⟨Nat.le_of_ble_eq_true rfl, Nat.le_of_ble_eq_true rfl⟩) hS (fun H locs hP hS => ?_)
  refine lv_icmp_le (tgt := 59) hx hb dF_takeInCheckpoints_16 (by decide) (fun hc => ?_) (fun hc => ?_)
  · have h := h.1 hc
    refine lv_iload_n hx hb dF_takeInCheckpoints_59 rfl (lv_at hl 0 rfl) ?_
    refine lv_if_ne (tgt := 80) hx hb dF_takeInCheckpoints_60 (by decide) (fun hc => ?_) (fun hc => ?_)
    · have h := h.1 hc
      refine lv_aload_n hx hb dF_takeInCheckpoints_80 rfl (lv_at hl 2 rfl) ?_
      refine lv_aload_n hx hb dF_takeInCheckpoints_81 rfl (lv_at hl 3 rfl) ?_
      refine va_get (D := D) (ci := 3) (v := .int (I0 j2 2)) (C := RS) (T := TS) (N := 7) hx hb htb inS hown hK hP j2 (mw_at (xk_lt hk2 (by decide)) (xm_S hk2 _ _)) rfl 2 (by decide) (htb _ k1_62) (fun _ h9 => h9) rfl dF_takeInCheckpoints_82 ?_
      refine mr_puti hx hb htb inN tyN tyN_ok nmN hown hK hP hD hS j1 (xk_lt hk1 (by decide)) (xm_N hk1 _ _) rfl 3 (by decide) (htb _ k1_144) (fun _ h9 => h9) rfl (by decide +kernel) (Nat.le_of_ble_eq_true rfl) (xm_N hk1 _ _) dF_takeInCheckpoints_85 (fun H locs hP hS => ?_)
      generalize heI3 : mu I0 j1 3 (I0 j2 2) = I3 at hP
      have h := h I3 heI3.symm
      exact me_v hx hb hr hlk hP hS h dF_takeInCheckpoints_88
    · have h := h.2 hc
      refine lv_aload_n hx hb dF_takeInCheckpoints_63 rfl (lv_at hl 3 rfl) ?_
      refine va_get (D := D) (ci := 3) (v := .int (I0 j2 2)) (C := RS) (T := TS) (N := 7) hx hb htb inS hown hK hP j2 (mw_at (xk_lt hk2 (by decide)) (xm_S hk2 _ _)) rfl 2 (by decide) (htb _ k1_62) (fun _ h9 => h9) rfl dF_takeInCheckpoints_64 ?_
      refine mc_r (va_runS (As := [.int (I0 j2 2)]) (rest := []) ⟨hx, hb, hml, hown, htb⟩ (C_F_epochOf l D ca ad I0 J0 (I0 j2 2)) (va_cwS 1 htb (gd_s k1_219 k1_220 k1_1 k1_221) rfl rfl rfl (by decide +kernel) ⟨Nat.le_of_ble_eq_true rfl, Nat.le_of_ble_eq_true rfl⟩) (mPre_S hK hP hD hN) rfl rfl hl.1 rfl (lv_room (Nat.le_of_ble_eq_true rfl)) dF_takeInCheckpoints_67 ⟨Nat.le_of_ble_eq_true rfl, Nat.le_of_ble_eq_true rfl⟩) hS (fun H locs hP hS => ?_)
      refine lv_aload_n hx hb dF_takeInCheckpoints_70 rfl (lv_at hl 2 rfl) ?_
      refine va_get (D := D) (ci := 2) (v := .int (I0 j1 3)) (C := RN) (T := TN) (N := 5) hx hb htb inN hown hK hP j1 (mw_at (xk_lt hk1 (by decide)) (xm_N hk1 _ _)) rfl 3 (by decide) (htb _ k1_144) (fun _ h9 => h9) rfl dF_takeInCheckpoints_71 ?_
      refine mc_r (va_runS (As := [.int (I0 j1 3)]) (rest := [.int (fF_epochOf I0 J0 (I0 j2 2))]) ⟨hx, hb, hml, hown, htb⟩ (C_F_epochOf l D ca ad I0 J0 (I0 j1 3)) (va_cwS 1 htb (gd_s k1_219 k1_220 k1_1 k1_221) rfl rfl rfl (by decide +kernel) ⟨Nat.le_of_ble_eq_true rfl, Nat.le_of_ble_eq_true rfl⟩) (mPre_S hK hP hD hN) rfl rfl hl.1 rfl (lv_room (Nat.le_of_ble_eq_true rfl)) dF_takeInCheckpoints_74 ⟨Nat.le_of_ble_eq_true rfl, Nat.le_of_ble_eq_true rfl⟩) hS (fun H locs hP hS => ?_)
      refine lv_icmp_le (tgt := 88) hx hb dF_takeInCheckpoints_77 (by decide) (fun hc => ?_) (fun hc => ?_)
      · have h := h.1 hc
        exact me_v hx hb hr hlk hP hS h dF_takeInCheckpoints_88
      · have h := h.2 hc
        refine lv_aload_n hx hb dF_takeInCheckpoints_80 rfl (lv_at hl 2 rfl) ?_
        refine lv_aload_n hx hb dF_takeInCheckpoints_81 rfl (lv_at hl 3 rfl) ?_
        refine va_get (D := D) (ci := 3) (v := .int (I0 j2 2)) (C := RS) (T := TS) (N := 7) hx hb htb inS hown hK hP j2 (mw_at (xk_lt hk2 (by decide)) (xm_S hk2 _ _)) rfl 2 (by decide) (htb _ k1_62) (fun _ h9 => h9) rfl dF_takeInCheckpoints_82 ?_
        refine mr_puti hx hb htb inN tyN tyN_ok nmN hown hK hP hD hS j1 (xk_lt hk1 (by decide)) (xm_N hk1 _ _) rfl 3 (by decide) (htb _ k1_144) (fun _ h9 => h9) rfl (by decide +kernel) (Nat.le_of_ble_eq_true rfl) (xm_N hk1 _ _) dF_takeInCheckpoints_85 (fun H locs hP hS => ?_)
        generalize heI6 : mu I0 j1 3 (I0 j2 2) = I6 at hP
        have h := h I6 heI6.symm
        exact me_v hx hb hr hlk hP hS h dF_takeInCheckpoints_88
  · have h := h.2 hc
    refine lv_aload_n hx hb dF_takeInCheckpoints_19 rfl (lv_at hl 2 rfl) ?_
    refine lv_aload_n hx hb dF_takeInCheckpoints_20 rfl (lv_at hl 3 rfl) ?_
    refine va_get (D := D) (ci := 3) (v := .int (I0 j2 3)) (C := RS) (T := TS) (N := 7) hx hb htb inS hown hK hP j2 (mw_at (xk_lt hk2 (by decide)) (xm_S hk2 _ _)) rfl 3 (by decide) (htb _ k1_64) (fun _ h9 => h9) rfl dF_takeInCheckpoints_21 ?_
    refine mr_puti hx hb htb inN tyN tyN_ok nmN hown hK hP hD hS j1 (xk_lt hk1 (by decide)) (xm_N hk1 _ _) rfl 4 (by decide) (htb _ k1_145) (fun _ h9 => h9) rfl (by decide +kernel) (Nat.le_of_ble_eq_true rfl) (xm_N hk1 _ _) dF_takeInCheckpoints_24 (fun H locs hP hS => ?_)
    generalize heI7 : mu I0 j1 4 (I0 j2 3) = I7 at hP
    have h := h I7 heI7.symm
    refine lv_aload_n hx hb dF_takeInCheckpoints_27 rfl (lv_at hl 1 rfl) ?_
    refine lv_aload_n hx hb dF_takeInCheckpoints_28 rfl (lv_at hl 2 rfl) ?_
    refine lv_aload_n hx hb dF_takeInCheckpoints_29 rfl (lv_at hl 3 rfl) ?_
    refine va_get (D := D) (ci := 3) (v := .int (I7 j2 3)) (C := RS) (T := TS) (N := 7) hx hb htb inS hown hK hP j2 (mw_at (xk_lt hk2 (by decide)) (xm_S hk2 _ _)) rfl 3 (by decide) (htb _ k1_64) (fun _ h9 => h9) rfl dF_takeInCheckpoints_30 ?_
    refine mc_r (va_runS (As := [.int (I7 j2 3)]) (rest := [.ref (ad j1), .ref (ad 0)]) ⟨hx, hb, hml, hown, htb⟩ (C_F_blockOf l D ca ad I7 J0 (I7 j2 3)) (va_cwS 1 htb (gd_s k2_72 k2_73 k1_1 k2_74) rfl rfl rfl (by decide +kernel) ⟨Nat.le_of_ble_eq_true rfl, Nat.le_of_ble_eq_true rfl⟩) (mPre_S hK hP hD hN) rfl rfl hl.1 rfl (lv_room (Nat.le_of_ble_eq_true rfl)) dF_takeInCheckpoints_33 ⟨Nat.le_of_ble_eq_true rfl, Nat.le_of_ble_eq_true rfl⟩) hS (fun H locs hP hS => ?_)
    obtain ⟨S9, h⟩ := h
    obtain ⟨hp10, h⟩ := h
    refine mc_v (va_runV (As := [.ref (ad j1), .int (fF_blockOf I7 J0 (I7 j2 3))]) (rest := []) ⟨hx, hb, hml, hown, htb⟩ (C_F_forgetBeside l D ca ad S9 I7 J0 j1 (fF_blockOf I7 J0 (I7 j2 3)) hk1 hp10) (cwV 2 htb (gd_v k2_114 k2_116 ks14 k1_1 k2_117) rfl rfl rfl (by decide +kernel) ⟨Nat.le_of_ble_eq_true rfl, Nat.le_of_ble_eq_true rfl⟩) (mPre_V hK hP hD hN rfl (mw_at (xk_lt (show xk 0 = 0 from rfl) (by decide)) (xm_F (show xk 0 = 0 from rfl) _ _))) rfl rfl hl.1 rfl (lv_room (Nat.le_of_ble_eq_true rfl)) dF_takeInCheckpoints_36 ⟨Nat.le_of_ble_eq_true rfl, Nat.le_of_ble_eq_true rfl⟩) hS (fun I12 J13 H locs hpost hP hS => ?_)
    have h := h I12 J13 hpost
    refine lv_aload_n hx hb dF_takeInCheckpoints_39 rfl (lv_at hl 2 rfl) ?_
    refine lv_aload_n hx hb dF_takeInCheckpoints_40 rfl (lv_at hl 2 rfl) ?_
    refine va_get (D := D) (ci := 2) (v := .int (I12 j1 3)) (C := RN) (T := TN) (N := 5) hx hb htb inN hown hK hP j1 (mw_at (xk_lt hk1 (by decide)) (xm_N hk1 _ _)) rfl 3 (by decide) (htb _ k1_144) (fun _ h9 => h9) rfl dF_takeInCheckpoints_41 ?_
    refine mc_r (va_runS (As := [.int (I12 j1 3)]) (rest := [.ref (ad j1)]) ⟨hx, hb, hml, hown, htb⟩ (C_F_blockOf l D ca ad I12 J13 (I12 j1 3)) (va_cwS 1 htb (gd_s k2_72 k2_73 k1_1 k2_74) rfl rfl rfl (by decide +kernel) ⟨Nat.le_of_ble_eq_true rfl, Nat.le_of_ble_eq_true rfl⟩) (mPre_S hK hP hD hN) rfl rfl hl.1 rfl (lv_room (Nat.le_of_ble_eq_true rfl)) dF_takeInCheckpoints_44 ⟨Nat.le_of_ble_eq_true rfl, Nat.le_of_ble_eq_true rfl⟩) hS (fun H locs hP hS => ?_)
    refine mc_r (va_runV (As := [.int (fF_blockOf I12 J13 (I12 j1 3))]) (rest := []) ⟨hx, hb, hml, hown, htb⟩ (C_N_isKnown l D ca ad I12 J13 j1 (fF_blockOf I12 J13 (I12 j1 3)) hk1) (cwV 1 htb (gd_v k2_98 k2_99 k2_100 k1_7 k2_101) rfl rfl rfl (by decide +kernel) ⟨Nat.le_of_ble_eq_true rfl, Nat.le_of_ble_eq_true rfl⟩) (mPre_V hK hP hD hN rfl (mw_at (xk_lt hk1 (by decide)) (xm_N hk1 _ _))) rfl rfl hl.1 rfl (lv_room (Nat.le_of_ble_eq_true rfl)) dF_takeInCheckpoints_47 ⟨Nat.le_of_ble_eq_true rfl, Nat.le_of_ble_eq_true rfl⟩) hS (fun H locs hP hS => ?_)
    refine lv_if_ne (tgt := 57) hx hb dF_takeInCheckpoints_50 (by decide) (fun hc => ?_) (fun hc => ?_)
    · have h := h.1 hc
      refine lv_iconst (v := 0) hx hb dF_takeInCheckpoints_57 (by decide) ?_
      refine lv_istore_n (lv' := [(3, .int 0), (0, .ref (ad 0)), (1, .ref (ad j1)), (2, .ref (ad j2))]) hx hb dF_takeInCheckpoints_58 rfl hl (by decide) rfl (fun ls hl => ?_)
      refine lv_iload_n hx hb dF_takeInCheckpoints_59 rfl (lv_at hl 0 rfl) ?_
      refine lv_if_ne (tgt := 80) hx hb dF_takeInCheckpoints_60 (by decide) (fun hc => ?_) (fun hc => ?_)
      · have h := h.1 hc
        refine lv_aload_n hx hb dF_takeInCheckpoints_80 rfl (lv_at hl 2 rfl) ?_
        refine lv_aload_n hx hb dF_takeInCheckpoints_81 rfl (lv_at hl 3 rfl) ?_
        refine va_get (D := D) (ci := 3) (v := .int (I12 j2 2)) (C := RS) (T := TS) (N := 7) hx hb htb inS hown hK hP j2 (mw_at (xk_lt hk2 (by decide)) (xm_S hk2 _ _)) rfl 2 (by decide) (htb _ k1_62) (fun _ h9 => h9) rfl dF_takeInCheckpoints_82 ?_
        refine mr_puti hx hb htb inN tyN tyN_ok nmN hown hK hP hD hS j1 (xk_lt hk1 (by decide)) (xm_N hk1 _ _) rfl 3 (by decide) (htb _ k1_144) (fun _ h9 => h9) rfl (by decide +kernel) (Nat.le_of_ble_eq_true rfl) (xm_N hk1 _ _) dF_takeInCheckpoints_85 (fun H locs hP hS => ?_)
        generalize heI16 : mu I12 j1 3 (I12 j2 2) = I16 at hP
        have h := h I16 heI16.symm
        exact me_v hx hb hr hlk hP hS h dF_takeInCheckpoints_88
      · have h := h.2 hc
        refine lv_aload_n hx hb dF_takeInCheckpoints_63 rfl (lv_at hl 3 rfl) ?_
        refine va_get (D := D) (ci := 3) (v := .int (I12 j2 2)) (C := RS) (T := TS) (N := 7) hx hb htb inS hown hK hP j2 (mw_at (xk_lt hk2 (by decide)) (xm_S hk2 _ _)) rfl 2 (by decide) (htb _ k1_62) (fun _ h9 => h9) rfl dF_takeInCheckpoints_64 ?_
        refine mc_r (va_runS (As := [.int (I12 j2 2)]) (rest := []) ⟨hx, hb, hml, hown, htb⟩ (C_F_epochOf l D ca ad I12 J13 (I12 j2 2)) (va_cwS 1 htb (gd_s k1_219 k1_220 k1_1 k1_221) rfl rfl rfl (by decide +kernel) ⟨Nat.le_of_ble_eq_true rfl, Nat.le_of_ble_eq_true rfl⟩) (mPre_S hK hP hD hN) rfl rfl hl.1 rfl (lv_room (Nat.le_of_ble_eq_true rfl)) dF_takeInCheckpoints_67 ⟨Nat.le_of_ble_eq_true rfl, Nat.le_of_ble_eq_true rfl⟩) hS (fun H locs hP hS => ?_)
        refine lv_aload_n hx hb dF_takeInCheckpoints_70 rfl (lv_at hl 2 rfl) ?_
        refine va_get (D := D) (ci := 2) (v := .int (I12 j1 3)) (C := RN) (T := TN) (N := 5) hx hb htb inN hown hK hP j1 (mw_at (xk_lt hk1 (by decide)) (xm_N hk1 _ _)) rfl 3 (by decide) (htb _ k1_144) (fun _ h9 => h9) rfl dF_takeInCheckpoints_71 ?_
        refine mc_r (va_runS (As := [.int (I12 j1 3)]) (rest := [.int (fF_epochOf I12 J13 (I12 j2 2))]) ⟨hx, hb, hml, hown, htb⟩ (C_F_epochOf l D ca ad I12 J13 (I12 j1 3)) (va_cwS 1 htb (gd_s k1_219 k1_220 k1_1 k1_221) rfl rfl rfl (by decide +kernel) ⟨Nat.le_of_ble_eq_true rfl, Nat.le_of_ble_eq_true rfl⟩) (mPre_S hK hP hD hN) rfl rfl hl.1 rfl (lv_room (Nat.le_of_ble_eq_true rfl)) dF_takeInCheckpoints_74 ⟨Nat.le_of_ble_eq_true rfl, Nat.le_of_ble_eq_true rfl⟩) hS (fun H locs hP hS => ?_)
        refine lv_icmp_le (tgt := 88) hx hb dF_takeInCheckpoints_77 (by decide) (fun hc => ?_) (fun hc => ?_)
        · have h := h.1 hc
          exact me_v hx hb hr hlk hP hS h dF_takeInCheckpoints_88
        · have h := h.2 hc
          refine lv_aload_n hx hb dF_takeInCheckpoints_80 rfl (lv_at hl 2 rfl) ?_
          refine lv_aload_n hx hb dF_takeInCheckpoints_81 rfl (lv_at hl 3 rfl) ?_
          refine va_get (D := D) (ci := 3) (v := .int (I12 j2 2)) (C := RS) (T := TS) (N := 7) hx hb htb inS hown hK hP j2 (mw_at (xk_lt hk2 (by decide)) (xm_S hk2 _ _)) rfl 2 (by decide) (htb _ k1_62) (fun _ h9 => h9) rfl dF_takeInCheckpoints_82 ?_
          refine mr_puti hx hb htb inN tyN tyN_ok nmN hown hK hP hD hS j1 (xk_lt hk1 (by decide)) (xm_N hk1 _ _) rfl 3 (by decide) (htb _ k1_144) (fun _ h9 => h9) rfl (by decide +kernel) (Nat.le_of_ble_eq_true rfl) (xm_N hk1 _ _) dF_takeInCheckpoints_85 (fun H locs hP hS => ?_)
          generalize heI19 : mu I12 j1 3 (I12 j2 2) = I19 at hP
          have h := h I19 heI19.symm
          exact me_v hx hb hr hlk hP hS h dF_takeInCheckpoints_88
    · have h := h.2 hc
      refine lv_iconst (v := 1) hx hb dF_takeInCheckpoints_53 (by decide) ?_
      refine lv_goto (tgt := 58) hx hb dF_takeInCheckpoints_54 (by decide) ?_
      refine lv_istore_n (lv' := [(3, .int 1), (0, .ref (ad 0)), (1, .ref (ad j1)), (2, .ref (ad j2))]) hx hb dF_takeInCheckpoints_58 rfl hl (by decide) rfl (fun ls hl => ?_)
      refine lv_iload_n hx hb dF_takeInCheckpoints_59 rfl (lv_at hl 0 rfl) ?_
      refine lv_if_ne (tgt := 80) hx hb dF_takeInCheckpoints_60 (by decide) (fun hc => ?_) (fun hc => ?_)
      · have h := h.1 hc
        refine lv_aload_n hx hb dF_takeInCheckpoints_80 rfl (lv_at hl 2 rfl) ?_
        refine lv_aload_n hx hb dF_takeInCheckpoints_81 rfl (lv_at hl 3 rfl) ?_
        refine va_get (D := D) (ci := 3) (v := .int (I12 j2 2)) (C := RS) (T := TS) (N := 7) hx hb htb inS hown hK hP j2 (mw_at (xk_lt hk2 (by decide)) (xm_S hk2 _ _)) rfl 2 (by decide) (htb _ k1_62) (fun _ h9 => h9) rfl dF_takeInCheckpoints_82 ?_
        refine mr_puti hx hb htb inN tyN tyN_ok nmN hown hK hP hD hS j1 (xk_lt hk1 (by decide)) (xm_N hk1 _ _) rfl 3 (by decide) (htb _ k1_144) (fun _ h9 => h9) rfl (by decide +kernel) (Nat.le_of_ble_eq_true rfl) (xm_N hk1 _ _) dF_takeInCheckpoints_85 (fun H locs hP hS => ?_)
        generalize heI20 : mu I12 j1 3 (I12 j2 2) = I20 at hP
        have h := h I20 heI20.symm
        exact me_v hx hb hr hlk hP hS h dF_takeInCheckpoints_88
      · have h := h.2 hc
        refine lv_aload_n hx hb dF_takeInCheckpoints_63 rfl (lv_at hl 3 rfl) ?_
        refine va_get (D := D) (ci := 3) (v := .int (I12 j2 2)) (C := RS) (T := TS) (N := 7) hx hb htb inS hown hK hP j2 (mw_at (xk_lt hk2 (by decide)) (xm_S hk2 _ _)) rfl 2 (by decide) (htb _ k1_62) (fun _ h9 => h9) rfl dF_takeInCheckpoints_64 ?_
        refine mc_r (va_runS (As := [.int (I12 j2 2)]) (rest := []) ⟨hx, hb, hml, hown, htb⟩ (C_F_epochOf l D ca ad I12 J13 (I12 j2 2)) (va_cwS 1 htb (gd_s k1_219 k1_220 k1_1 k1_221) rfl rfl rfl (by decide +kernel) ⟨Nat.le_of_ble_eq_true rfl, Nat.le_of_ble_eq_true rfl⟩) (mPre_S hK hP hD hN) rfl rfl hl.1 rfl (lv_room (Nat.le_of_ble_eq_true rfl)) dF_takeInCheckpoints_67 ⟨Nat.le_of_ble_eq_true rfl, Nat.le_of_ble_eq_true rfl⟩) hS (fun H locs hP hS => ?_)
        refine lv_aload_n hx hb dF_takeInCheckpoints_70 rfl (lv_at hl 2 rfl) ?_
        refine va_get (D := D) (ci := 2) (v := .int (I12 j1 3)) (C := RN) (T := TN) (N := 5) hx hb htb inN hown hK hP j1 (mw_at (xk_lt hk1 (by decide)) (xm_N hk1 _ _)) rfl 3 (by decide) (htb _ k1_144) (fun _ h9 => h9) rfl dF_takeInCheckpoints_71 ?_
        refine mc_r (va_runS (As := [.int (I12 j1 3)]) (rest := [.int (fF_epochOf I12 J13 (I12 j2 2))]) ⟨hx, hb, hml, hown, htb⟩ (C_F_epochOf l D ca ad I12 J13 (I12 j1 3)) (va_cwS 1 htb (gd_s k1_219 k1_220 k1_1 k1_221) rfl rfl rfl (by decide +kernel) ⟨Nat.le_of_ble_eq_true rfl, Nat.le_of_ble_eq_true rfl⟩) (mPre_S hK hP hD hN) rfl rfl hl.1 rfl (lv_room (Nat.le_of_ble_eq_true rfl)) dF_takeInCheckpoints_74 ⟨Nat.le_of_ble_eq_true rfl, Nat.le_of_ble_eq_true rfl⟩) hS (fun H locs hP hS => ?_)
        refine lv_icmp_le (tgt := 88) hx hb dF_takeInCheckpoints_77 (by decide) (fun hc => ?_) (fun hc => ?_)
        · have h := h.1 hc
          exact me_v hx hb hr hlk hP hS h dF_takeInCheckpoints_88
        · have h := h.2 hc
          refine lv_aload_n hx hb dF_takeInCheckpoints_80 rfl (lv_at hl 2 rfl) ?_
          refine lv_aload_n hx hb dF_takeInCheckpoints_81 rfl (lv_at hl 3 rfl) ?_
          refine va_get (D := D) (ci := 3) (v := .int (I12 j2 2)) (C := RS) (T := TS) (N := 7) hx hb htb inS hown hK hP j2 (mw_at (xk_lt hk2 (by decide)) (xm_S hk2 _ _)) rfl 2 (by decide) (htb _ k1_62) (fun _ h9 => h9) rfl dF_takeInCheckpoints_82 ?_
          refine mr_puti hx hb htb inN tyN tyN_ok nmN hown hK hP hD hS j1 (xk_lt hk1 (by decide)) (xm_N hk1 _ _) rfl 3 (by decide) (htb _ k1_144) (fun _ h9 => h9) rfl (by decide +kernel) (Nat.le_of_ble_eq_true rfl) (xm_N hk1 _ _) dF_takeInCheckpoints_85 (fun H locs hP hS => ?_)
          generalize heI23 : mu I12 j1 3 (I12 j2 2) = I23 at hP
          have h := h I23 heI23.symm
          exact me_v hx hb hr hlk hP hS h dF_takeInCheckpoints_88
def wp_F_give (R : Int32 → mI → mJ → Prop) (I0 : mI) (J0 : mJ) (a1 : Int32) (a2 : Int32) : Prop :=
  (((fF_isNode I0 J0 a1) = 0 → R 0 I0 J0) ∧ (¬ ((fF_isNode I0 J0 a1) = 0) → ((¬ ((fF_isBlock I0 J0 a2) = 0) → (vp_in a1 3 ∧ (vp_in a2 60 ∧ ((¬ ((fN_isKnown I0 J0 (445 + 3 * a1.toNatClampNeg) a2) = 0) → R 0 I0 J0) ∧ ((fN_isKnown I0 J0 (445 + 3 * a1.toNatClampNeg) a2) = 0 → (((I0 (3 + 6 * a2.toNatClampNeg) 0) = (-1) → R 0 I0 J0) ∧ (¬ ((I0 (3 + 6 * a2.toNatClampNeg) 0) = (-1)) → ((¬ ((fN_isKnown I0 J0 (445 + 3 * a1.toNatClampNeg) (I0 (3 + 6 * a2.toNatClampNeg) 0)) = 0) → (∀ (J7 : mJ), J7 = mul J0 (445 + 3 * a1.toNatClampNeg) 0 ((J0 (445 + 3 * a1.toNatClampNeg) 0) ||| ((1 : Int64) <<< (a2.toInt64 &&& 63))) → (vp_in a2 60 ∧ (∃ (S9 : mI), (pF_takeInVotes S9 I0 J7 (445 + 3 * a1.toNatClampNeg) ((3 + 6 * a2.toNatClampNeg) + 1) ∧ (∀ (I12 : mI) (J13 : mJ), qF_takeInVotes S9 I0 J7 (445 + 3 * a1.toNatClampNeg) ((3 + 6 * a2.toNatClampNeg) + 1) I12 J13 → (vp_in a2 60 ∧ (∃ (S15 : mI), (pF_takeInCheckpoints S15 I12 J13 (445 + 3 * a1.toNatClampNeg) ((3 + 6 * a2.toNatClampNeg) + 4) ∧ (∀ (I18 : mI) (J19 : mJ), qF_takeInCheckpoints S15 I12 J13 (445 + 3 * a1.toNatClampNeg) ((3 + 6 * a2.toNatClampNeg) + 4) I18 J19 → R 1 I18 J19)))))))))) ∧ ((fN_isKnown I0 J0 (445 + 3 * a1.toNatClampNeg) (I0 (3 + 6 * a2.toNatClampNeg) 0)) = 0 → R 0 I0 J0))))))))) ∧ ((fF_isBlock I0 J0 a2) = 0 → R 0 I0 J0))))
theorem P_F_give (S : mI) (I0 : mI) (J0 : mJ) (a1 : Int32) (a2 : Int32)  (hp : pX2 S I0 J0 a1 a2)  (R : Int32 → mI → mJ → Prop)  (hR : ∀ (r : Int32) (I' : mI) (J' : mJ), qF_give S I0 J0 a1 a2 r I' J' → R r I' J') : wp_F_give R I0 J0 a1 a2 := by
  have hX : XR S I0 J0 := hp
  have hb := hX.1.b
  unfold wp_F_give fN_isKnown
  unfold qF_give at hR
  refine ⟨fun h => hR _ _ _ ?_, fun h => ⟨fun h2 => ?_, fun h2 => hR _ _ _ ?_⟩⟩
  · unfold oGiv
    rw [if_pos (Or.inl (isN.mp h))]
    exact ⟨rfl, hX⟩
  · have h1 : iNd a1 := nn (fun q => h (isN.mpr q))
    have h3 : iBl S a2 := nn (fun q => h2 (hX.isB.mpr q))
    obtain ⟨n, hn, rfl⟩ := iNd_n h1
    obtain ⟨b, hb0, rfl⟩ := hX.1.iB h3
    have en : (nI n).toNatClampNeg = n := nI_clamp (by omega)
    have eb : (nI b).toNatClampNeg = b := nI_clamp (by omega)
    have n3 : vp_in (nI n) 3 := vp_in_nI (by omega) (by omega)
    have b60 : vp_in (nI b) 60 := vp_in_nI (by omega) (by omega)
    unfold oGiv at hR
    rw [show cN (nI n) = n from en, show cN (nI b) = b from eb] at hR
    have hB := hX.1.2.1 b hb0
    rw [en, eb, fLit_bz _ (by omega), hX.kn hn (by omega), hX.pa hb0]
    refine ⟨n3, b60, fun h4 => hR _ _ _ ?_, fun h4 => ⟨fun h5 => hR _ _ _ ?_, fun h5 => ?_⟩⟩
    · rw [if_pos (Or.inr (Or.inr (Or.inl (bz_n0.mp h4))))]
      exact ⟨rfl, hX⟩
    · have hz : b = 0 := by
        rcases Nat.eq_zero_or_pos b with z | z
        · exact z
        · rw [(hB.2.2.2.2.2.1 z).1] at h5
          exact absurd h5 (oI_ne (k := zPar S b) (by have := (hB.2.2.2.2.2.1 z).2.1; omega))
      rw [if_pos (Or.inr (Or.inr (Or.inr (Or.inl hz))))]
      exact ⟨rfl, hX⟩
    · have hz : 0 < b := by
        rcases Nat.eq_zero_or_pos b with z | z
        · subst z
          exact absurd (hB.2.2.2.2.1 rfl).1 h5
        · exact z
      have hpb := hB.2.2.2.2.2.1 hz
      rw [hpb.1, fLit_bz _ (by omega), hX.kn hn (by omega)]
      refine ⟨fun h6 J7 e7 => ⟨b60, mu S 14 (60 * n + b) 1, ?_⟩, fun h6 => hR _ _ _ ?_⟩
      · rw [if_neg (fun q => q.elim (fun z => z h1) (fun q => q.elim (fun z => z h3) (fun q => q.elim (fun z => by rw [bz_0.mp h4] at z; exact absurd z (by decide)) (fun q => q.elim (fun z => by omega) (fun z => by rw [bz_n0.mp h6] at z; exact absurd z (by decide))))))] at hR
        have hS1 : XR (mu S 14 (60 * n + b) 1) I0 J7 := by
          have e : mu S 14 (60 * n + b) 1 = mrow S 14 (upd (S 14) (60 * n + b) 1) := rfl
          rw [e]
          refine hX.setk hn (fun q hq => ?_) (fun q => ?_) (fun j hj => by rw [e7]; exact mul_other _ _ _ hj) (fun c hc => ?_)
          · unfold upd
            rw [if_neg (by omega)]
          · unfold upd
            by_cases c : q = 60 * n + b
            · rw [if_pos c]; exact Or.inr (Or.inr rfl)
            · rw [if_neg c]; exact Or.inl rfl
          · rw [e7, mul_self]
            show bL (J0 (445 + 3 * n) 0 ||| ((1 : Int64) <<< ((nI b).toInt64 &&& 63))) c = _
            rw [L_set _ (by omega) (by omega), hX.kn hn hc]
            unfold zKn upd
            by_cases e1 : b = c
            · subst e1
              rw [if_pos rfl, decide_eq_true rfl]
              simp
            · rw [if_neg (by omega), decide_eq_false e1, Bool.or_false]
        refine ⟨⟨hS1, ⟨n, hn, rfl⟩, ⟨b, hb0, rfl⟩⟩, fun I12 J13 hq => ⟨b60, ?_⟩⟩
        unfold qF_takeInVotes at hq
        rw [iN_n, iBk_b] at hq
        have eic : zIc (mu S 14 (60 * n + b) 1) b = zIc S b := rfl
        rw [eic] at hq
        refine ⟨_, ⟨hq, ⟨n, hn, rfl⟩, ⟨b, ?_, rfl⟩⟩, fun I18 J19 hq2 => hR _ _ _ ⟨rfl, ?_⟩⟩
        · rw [bc_of (S := S) (by rw [zItems_row _ n b _ (by omega)]; rfl)]
          exact hb0
        · unfold qF_takeInCheckpoints at hq2
          rw [iN_n, iBs_b] at hq2
          exact hq2
      · rw [if_pos (Or.inr (Or.inr (Or.inr (Or.inr (bz_0.mp h6)))))]
        exact ⟨rfl, hX⟩
  · unfold oGiv
    rw [if_pos (Or.inr (Or.inl (hX.isB.mp h2)))]
    exact ⟨rfl, hX⟩
set_option maxHeartbeats 4000000 in
set_option maxRecDepth 100000 in
theorem C_F_give (l : Launch) (D : va_G) (ca : Nat → Nat) (ad : Nat → Nat) (S : mI) (I0 : mI) (J0 : mJ) (a1 : Int32) (a2 : Int32)  (hp : pX2 S I0 J0 a1 a2) : Met l yF_give wF_give ({ frames := 3, cells := 0, slots := 0, locals := 68 } : Room) (va_Pc [.ref (ad 0), .int a1, .int a2] (mPre D vwCl (xty ca) 459 ad (xmk ca ad) nL I0 J0)) (mQi D vwCl 459 ad (xmk ca ad) (qF_give S I0 J0 a1 a2)) 0 0 (mA 459 ad) := by
  refine Met.ofW (cc := cF_give) (maxL := 5) (ret := (some .boolean)) (by decide) rfl ?_
  intro p e s m args below meth c s₁ B hml hv
  obtain ⟨rfl, hP, hK, hD0, hN⟩ := hv
  have hx := B.exec
  have hb := B.bytes
  have hr := B.returns
  have htb : ∀ w ∈ wb, w.before _ s = true := fun w h => atoms_spec (ws := wF_give) B.pre w (List.mem_cons_of_mem _ h)
  have hown : s.vm.findClass RF = some m.cls := findClass_of_methodNamed B.named
  have hlk := B.notSynchronized
  have hD := mw_Dm hD0
  have hS : va_S (mA 459 ad) s.heap s.heap [] := va_S.rf
  have hl := lv_entry ([.ref (ad 0), .int a1, .int a2]) (n := 5) (Nat.le_of_ble_eq_true rfl)
  rw [lg_entry_eq]
  generalize (lg_sl ([.ref (ad 0), .int a1, .int a2]) ++ List.replicate (5 - (lg_sl ([.ref (ad 0), .int a1, .int a2])).length) Slot.unset).toArray = ls at hl ⊢
  have hl : lv_has ls 5 [(0, .ref (ad 0)), (1, .int a1), (2, .int a2)] := hl
  have h := P_F_give S I0 J0 a1 a2  hp  (qF_give S I0 J0 a1 a2)  (fun _ _ _ h => h)
  unfold wp_F_give at h
  refine lv_iload_n hx hb dF_give_0 rfl (lv_at hl 1 rfl) ?_
  refine mc_r (va_runS (As := [.int a1]) (rest := []) ⟨hx, hb, hml, hown, htb⟩ (C_F_isNode l D ca ad I0 J0 a1) (va_cwS 1 htb (gd_s k2_95 k2_96 k1_1 k2_97) rfl rfl rfl (by decide +kernel) ⟨Nat.le_of_ble_eq_true rfl, Nat.le_of_ble_eq_true rfl⟩) (mPre_S hK hP hD hN) rfl rfl hl.1 rfl (lv_room (Nat.le_of_ble_eq_true rfl)) dF_give_1 ⟨Nat.le_of_ble_eq_true rfl, Nat.le_of_ble_eq_true rfl⟩) hS (fun H locs hP hS => ?_)
  refine lv_if_eq (tgt := 15) hx hb dF_give_4 (by decide) (fun hc => ?_) (fun hc => ?_)
  · have h := h.1 hc
    refine lv_iconst (v := 0) hx hb dF_give_15 (by decide) ?_
    exact me_z hx hb hr hlk hP hS rfl h dF_give_16
  · have h := h.2 hc
    refine lv_aload_n hx hb dF_give_7 rfl (lv_at hl 0 rfl) ?_
    refine lv_iload_n hx hb dF_give_8 rfl (lv_at hl 2 rfl) ?_
    refine mc_r (va_runV (As := [.int a2]) (rest := []) ⟨hx, hb, hml, hown, htb⟩ (C_F_isBlock l D ca ad I0 J0 a2) (cwV 1 htb (gd_v k1_204 k1_206 ks1 k1_1 k1_207) rfl rfl rfl (by decide +kernel) ⟨Nat.le_of_ble_eq_true rfl, Nat.le_of_ble_eq_true rfl⟩) (mPre_V hK hP hD hN rfl (mw_at (xk_lt (show xk 0 = 0 from rfl) (by decide)) (xm_F (show xk 0 = 0 from rfl) _ _))) rfl rfl hl.1 rfl (lv_room (Nat.le_of_ble_eq_true rfl)) dF_give_9 ⟨Nat.le_of_ble_eq_true rfl, Nat.le_of_ble_eq_true rfl⟩) hS (fun H locs hP hS => ?_)
    refine lv_if_ne (tgt := 17) hx hb dF_give_12 (by decide) (fun hc => ?_) (fun hc => ?_)
    · have h := h.1 hc
      refine lv_aload_n hx hb dF_give_17 rfl (lv_at hl 0 rfl) ?_
      refine va_get (D := D) (ci := 5) (v := .ref (ad 444)) (C := RF) (T := TF) (N := 11) hx hb htb inF hown hK hP 0 (mw_at (xk_lt (show xk 0 = 0 from rfl) (by decide)) (xm_F (show xk 0 = 0 from rfl) _ _)) rfl 8 (by decide) (htb _ k1_170) (fun _ h9 => h9) rfl dF_give_18 ?_
      refine lv_iload_n hx hb dF_give_21 rfl (lv_at hl 1 rfl) ?_
      obtain ⟨hn3, h⟩ := h
      refine mr_aald hx hb hK hP 444 4 (xk_lt (show xk 444 = 9 from rfl) (by decide)) (xm_NA (show xk 444 = 9 from rfl) _ _) rfl hn3 dF_give_22 ?_
      refine lv_astore_n (lv' := [(3, .ref (ad (445 + 3 * a1.toNatClampNeg))), (0, .ref (ad 0)), (1, .int a1), (2, .int a2)]) hx hb dF_give_23 rfl hl (by decide) rfl (fun ls hl => ?_)
      refine lv_aload_n hx hb dF_give_24 rfl (lv_at hl 1 rfl) ?_
      refine va_get (D := D) (ci := 5) (v := .ref (ad 2)) (C := RF) (T := TF) (N := 11) hx hb htb inF hown hK hP 0 (mw_at (xk_lt (show xk 0 = 0 from rfl) (by decide)) (xm_F (show xk 0 = 0 from rfl) _ _)) rfl 4 (by decide) (htb _ k1_166) (fun _ h9 => h9) rfl dF_give_25 ?_
      refine lv_iload_n hx hb dF_give_28 rfl (lv_at hl 3 rfl) ?_
      obtain ⟨hn4, h⟩ := h
      refine mr_aald hx hb hK hP 2 2 (xk_lt (show xk 2 = 2 from rfl) (by decide)) (xm_BA (show xk 2 = 2 from rfl) _ _) rfl hn4 dF_give_29 ?_
      refine va_get (D := D) (ci := 0) (v := .int (I0 (3 + 6 * a2.toNatClampNeg) 0)) (C := RB) (T := TB) (N := 6) hx hb htb inB hown hK hP (3 + 6 * a2.toNatClampNeg) (mw_at (xk_lt (xk_B hn4) (by decide)) (xm_B (xk_B hn4) _ _)) rfl 0 (by decide) (htb _ k1_84) (fun _ h9 => h9) rfl dF_give_30 ?_
      refine lv_istore (lv' := [(4, .int (I0 (3 + 6 * a2.toNatClampNeg) 0)), (3, .ref (ad (445 + 3 * a1.toNatClampNeg))), (0, .ref (ad 0)), (1, .int a1), (2, .int a2)]) hx hb dF_give_33 hl (by decide) rfl (fun ls hl => ?_)
      refine lv_aload_n hx hb dF_give_35 rfl (lv_at hl 1 rfl) ?_
      refine lv_iload_n hx hb dF_give_36 rfl (lv_at hl 4 rfl) ?_
      refine mc_r (va_runV (As := [.int a2]) (rest := []) ⟨hx, hb, hml, hown, htb⟩ (C_N_isKnown l D ca ad I0 J0 (445 + 3 * a1.toNatClampNeg) a2 (xk_N hn3)) (cwV 1 htb (gd_v k2_98 k2_99 k2_100 k1_7 k2_101) rfl rfl rfl (by decide +kernel) ⟨Nat.le_of_ble_eq_true rfl, Nat.le_of_ble_eq_true rfl⟩) (mPre_V hK hP hD hN rfl (mw_at (xk_lt (xk_N hn3) (by decide)) (xm_N (xk_N hn3) _ _))) rfl rfl hl.1 rfl (lv_room (Nat.le_of_ble_eq_true rfl)) dF_give_37 ⟨Nat.le_of_ble_eq_true rfl, Nat.le_of_ble_eq_true rfl⟩) hS (fun H locs hP hS => ?_)
      refine lv_if_ne (tgt := 58) hx hb dF_give_40 (by decide) (fun hc => ?_) (fun hc => ?_)
      · have h := h.1 hc
        refine lv_iconst (v := 0) hx hb dF_give_58 (by decide) ?_
        exact me_z hx hb hr hlk hP hS rfl h dF_give_59
      · have h := h.2 hc
        refine lv_iload hx hb dF_give_43 (lv_at hl 0 rfl) ?_
        refine lv_iconst (v := (-1)) hx hb dF_give_45 (by decide) ?_
        refine lv_icmp_eq (tgt := 58) hx hb dF_give_46 (by decide) (fun hc => ?_) (fun hc => ?_)
        · have h := h.1 hc
          refine lv_iconst (v := 0) hx hb dF_give_58 (by decide) ?_
          exact me_z hx hb hr hlk hP hS rfl h dF_give_59
        · have h := h.2 hc
          refine lv_aload_n hx hb dF_give_49 rfl (lv_at hl 1 rfl) ?_
          refine lv_iload hx hb dF_give_50 (lv_at hl 0 rfl) ?_
          refine mc_r (va_runV (As := [.int (I0 (3 + 6 * a2.toNatClampNeg) 0)]) (rest := []) ⟨hx, hb, hml, hown, htb⟩ (C_N_isKnown l D ca ad I0 J0 (445 + 3 * a1.toNatClampNeg) (I0 (3 + 6 * a2.toNatClampNeg) 0) (xk_N hn3)) (cwV 1 htb (gd_v k2_98 k2_99 k2_100 k1_7 k2_101) rfl rfl rfl (by decide +kernel) ⟨Nat.le_of_ble_eq_true rfl, Nat.le_of_ble_eq_true rfl⟩) (mPre_V hK hP hD hN rfl (mw_at (xk_lt (xk_N hn3) (by decide)) (xm_N (xk_N hn3) _ _))) rfl rfl hl.1 rfl (lv_room (Nat.le_of_ble_eq_true rfl)) dF_give_52 ⟨Nat.le_of_ble_eq_true rfl, Nat.le_of_ble_eq_true rfl⟩) hS (fun H locs hP hS => ?_)
          refine lv_if_ne (tgt := 60) hx hb dF_give_55 (by decide) (fun hc => ?_) (fun hc => ?_)
          · have h := h.1 hc
            refine lv_aload_n hx hb dF_give_60 rfl (lv_at hl 1 rfl) ?_
            refine lv_dup hx hb dF_give_61 rfl ?_
            refine va_get (D := D) (ci := 2) (v := .long (J0 (445 + 3 * a1.toNatClampNeg) 0)) (C := RN) (T := TN) (N := 5) hx hb htb inN hown hK hP (445 + 3 * a1.toNatClampNeg) (mw_at (xk_lt (xk_N hn3) (by decide)) (xm_N (xk_N hn3) _ _)) rfl 0 (by decide) (htb _ k1_139) (fun _ h9 => h9) rfl dF_give_62 ?_
            refine lv_lconst (v := 1) hx hb dF_give_65 (by decide) ?_
            refine lv_iload_n hx hb dF_give_66 rfl (lv_at hl 4 rfl) ?_
            refine lv_lshl (v := (1 : Int64) <<< (a2.toInt64 &&& 63)) hx hb dF_give_67 rfl ?_
            refine lv_lor hx hb dF_give_68 ?_
            refine mr_putl hx hb htb inN tyN tyN_ok nmN hown hK hP hD hS (445 + 3 * a1.toNatClampNeg) (xk_lt (xk_N hn3) (by decide)) (xm_N (xk_N hn3) _ _) rfl 0 (by decide) (htb _ k1_139) (fun _ h9 => h9) rfl (by decide +kernel) (Nat.le_of_ble_eq_true rfl) (xm_N (xk_N hn3) _ _) dF_give_69 (fun H locs hP hS => ?_)
            generalize heJ7 : mul J0 (445 + 3 * a1.toNatClampNeg) 0 ((J0 (445 + 3 * a1.toNatClampNeg) 0) ||| ((1 : Int64) <<< (a2.toInt64 &&& 63))) = J7 at hP
            have h := h J7 heJ7.symm
            refine lv_aload_n hx hb dF_give_72 rfl (lv_at hl 2 rfl) ?_
            refine lv_aload_n hx hb dF_give_73 rfl (lv_at hl 1 rfl) ?_
            refine lv_aload_n hx hb dF_give_74 rfl (lv_at hl 2 rfl) ?_
            refine va_get (D := D) (ci := 5) (v := .ref (ad 2)) (C := RF) (T := TF) (N := 11) hx hb htb inF hown hK hP 0 (mw_at (xk_lt (show xk 0 = 0 from rfl) (by decide)) (xm_F (show xk 0 = 0 from rfl) _ _)) rfl 4 (by decide) (htb _ k1_166) (fun _ h9 => h9) rfl dF_give_75 ?_
            refine lv_iload_n hx hb dF_give_78 rfl (lv_at hl 4 rfl) ?_
            obtain ⟨hn8, h⟩ := h
            refine mr_aald hx hb hK hP 2 2 (xk_lt (show xk 2 = 2 from rfl) (by decide)) (xm_BA (show xk 2 = 2 from rfl) _ _) rfl hn8 dF_give_79 ?_
            refine va_get (D := D) (ci := 0) (v := .ref (ad ((3 + 6 * a2.toNatClampNeg) + 1))) (C := RB) (T := TB) (N := 6) hx hb htb inB hown hK hP (3 + 6 * a2.toNatClampNeg) (mw_at (xk_lt (xk_B hn8) (by decide)) (xm_B (xk_B hn8) _ _)) rfl 4 (by decide) (htb _ k1_90) (fun _ h9 => h9) rfl dF_give_80 ?_
            obtain ⟨S9, h⟩ := h
            obtain ⟨hp10, h⟩ := h
            refine mc_v (va_runV (As := [.ref (ad (445 + 3 * a1.toNatClampNeg)), .ref (ad ((3 + 6 * a2.toNatClampNeg) + 1))]) (rest := []) ⟨hx, hb, hml, hown, htb⟩ (C_F_takeInVotes l D ca ad S9 I0 J7 (445 + 3 * a1.toNatClampNeg) ((3 + 6 * a2.toNatClampNeg) + 1) (xk_N hn3) (xk_BI (xk_B hn8)) hp10) (cwV 2 htb (gd_v k2_102 k2_104 ks11 k1_1 k2_105) rfl rfl rfl (by decide +kernel) ⟨Nat.le_of_ble_eq_true rfl, Nat.le_of_ble_eq_true rfl⟩) (mPre_V hK hP hD hN rfl (mw_at (xk_lt (show xk 0 = 0 from rfl) (by decide)) (xm_F (show xk 0 = 0 from rfl) _ _))) rfl rfl hl.1 rfl (lv_room (Nat.le_of_ble_eq_true rfl)) dF_give_83 ⟨Nat.le_of_ble_eq_true rfl, Nat.le_of_ble_eq_true rfl⟩) hS (fun I12 J13 H locs hpost hP hS => ?_)
            have h := h I12 J13 hpost
            refine lv_aload_n hx hb dF_give_86 rfl (lv_at hl 2 rfl) ?_
            refine lv_aload_n hx hb dF_give_87 rfl (lv_at hl 1 rfl) ?_
            refine lv_aload_n hx hb dF_give_88 rfl (lv_at hl 2 rfl) ?_
            refine va_get (D := D) (ci := 5) (v := .ref (ad 2)) (C := RF) (T := TF) (N := 11) hx hb htb inF hown hK hP 0 (mw_at (xk_lt (show xk 0 = 0 from rfl) (by decide)) (xm_F (show xk 0 = 0 from rfl) _ _)) rfl 4 (by decide) (htb _ k1_166) (fun _ h9 => h9) rfl dF_give_89 ?_
            refine lv_iload_n hx hb dF_give_92 rfl (lv_at hl 4 rfl) ?_
            obtain ⟨hn14, h⟩ := h
            refine mr_aald hx hb hK hP 2 2 (xk_lt (show xk 2 = 2 from rfl) (by decide)) (xm_BA (show xk 2 = 2 from rfl) _ _) rfl hn14 dF_give_93 ?_
            refine va_get (D := D) (ci := 0) (v := .ref (ad ((3 + 6 * a2.toNatClampNeg) + 4))) (C := RB) (T := TB) (N := 6) hx hb htb inB hown hK hP (3 + 6 * a2.toNatClampNeg) (mw_at (xk_lt (xk_B hn14) (by decide)) (xm_B (xk_B hn14) _ _)) rfl 5 (by decide) (htb _ k1_92) (fun _ h9 => h9) rfl dF_give_94 ?_
            obtain ⟨S15, h⟩ := h
            obtain ⟨hp16, h⟩ := h
            refine mc_v (va_runV (As := [.ref (ad (445 + 3 * a1.toNatClampNeg)), .ref (ad ((3 + 6 * a2.toNatClampNeg) + 4))]) (rest := []) ⟨hx, hb, hml, hown, htb⟩ (C_F_takeInCheckpoints l D ca ad S15 I12 J13 (445 + 3 * a1.toNatClampNeg) ((3 + 6 * a2.toNatClampNeg) + 4) (xk_N hn3) (xk_BS (xk_B hn14)) hp16) (cwV 2 htb (gd_v k2_110 k2_112 ks13 k1_1 k2_113) rfl rfl rfl (by decide +kernel) ⟨Nat.le_of_ble_eq_true rfl, Nat.le_of_ble_eq_true rfl⟩) (mPre_V hK hP hD hN rfl (mw_at (xk_lt (show xk 0 = 0 from rfl) (by decide)) (xm_F (show xk 0 = 0 from rfl) _ _))) rfl rfl hl.1 rfl (lv_room (Nat.le_of_ble_eq_true rfl)) dF_give_97 ⟨Nat.le_of_ble_eq_true rfl, Nat.le_of_ble_eq_true rfl⟩) hS (fun I18 J19 H locs hpost hP hS => ?_)
            have h := h I18 J19 hpost
            refine lv_iconst (v := 1) hx hb dF_give_100 (by decide) ?_
            exact me_z hx hb hr hlk hP hS rfl h dF_give_101
          · have h := h.2 hc
            refine lv_iconst (v := 0) hx hb dF_give_58 (by decide) ?_
            exact me_z hx hb hr hlk hP hS rfl h dF_give_59
    · have h := h.2 hc
      refine lv_iconst (v := 0) hx hb dF_give_15 (by decide) ?_
      exact me_z hx hb hr hlk hP hS rfl h dF_give_16
def wp_F_hear (R : Int32 → mI → mJ → Prop) (I0 : mI) (J0 : mJ) (a1 : Int32) (a2 : Int32) : Prop :=
  (((fF_isNode I0 J0 a1) = 0 → R 0 I0 J0) ∧ (¬ ((fF_isNode I0 J0 a1) = 0) → (((fF_isVote I0 J0 a2) = 0 → R 0 I0 J0) ∧ (¬ ((fF_isVote I0 J0 a2) = 0) → (vp_in a1 3 ∧ (vp_in a2 80 ∧ (((I0 ((445 + 3 * a1.toNatClampNeg) + 1) a2.toNatClampNeg) = 0 → (vp_in a1 3 ∧ (∃ (S6 : mI), (pF_takeInVote S6 I0 J0 (445 + 3 * a1.toNatClampNeg) a2 ∧ (∀ (I9 : mI) (J10 : mJ), qF_takeInVote S6 I0 J0 (445 + 3 * a1.toNatClampNeg) a2 I9 J10 → R 1 I9 J10))))) ∧ (¬ ((I0 ((445 + 3 * a1.toNatClampNeg) + 1) a2.toNatClampNeg) = 0) → R 0 I0 J0))))))))
theorem P_F_hear (S : mI) (I0 : mI) (J0 : mJ) (a1 : Int32) (a2 : Int32)  (hp : pX2 S I0 J0 a1 a2)  (R : Int32 → mI → mJ → Prop)  (hR : ∀ (r : Int32) (I' : mI) (J' : mJ), qF_hear S I0 J0 a1 a2 r I' J' → R r I' J') : wp_F_hear R I0 J0 a1 a2 := by
  have hX : XR S I0 J0 := hp
  have hb := hX.1.b
  unfold wp_F_hear
  unfold qF_hear at hR
  refine ⟨fun h => hR _ _ _ ?_, fun h => ⟨fun h2 => hR _ _ _ ?_, fun h2 => ?_⟩⟩
  · unfold oHea
    rw [if_pos (Or.inl (isN.mp h))]
    exact ⟨rfl, hX⟩
  · unfold oHea
    rw [if_pos (Or.inr (Or.inl (hX.isV.mp h2)))]
    exact ⟨rfl, hX⟩
  · have h1 : iNd a1 := nn (fun q => h (isN.mpr q))
    have h3 : iVt S a2 := nn (fun q => h2 (hX.isV.mpr q))
    obtain ⟨n, hn, rfl⟩ := iNd_n h1
    obtain ⟨i, hi, rfl⟩ := hX.1.iV h3
    have en : (nI n).toNatClampNeg = n := nI_clamp (by omega)
    have ei : (nI i).toNatClampNeg = i := nI_clamp (by omega)
    have n3 : vp_in (nI n) 3 := vp_in_nI (by omega) (by omega)
    unfold oHea at hR
    rw [show cN (nI n) = n from en, show cN (nI i) = i from ei] at hR
    rw [en, ei, hX.hr hn (by omega)]
    refine ⟨n3, vp_in_nI (by omega) (by omega), fun h4 => ⟨n3, S, ⟨hX, ⟨n, hn, rfl⟩, ⟨i, hi, rfl⟩⟩, fun I9 J10 hq => hR _ _ _ ?_⟩, fun h4 => hR _ _ _ ?_⟩
    · unfold qF_takeInVote at hq
      rw [iN_n, cN_nI (by omega)] at hq
      rw [if_neg (fun q => q.elim (fun z => z h1) (fun q => q.elim (fun z => z h3) (fun z => by rw [hr_0.mp h4] at z; exact absurd z (by decide))))]
      exact ⟨rfl, hq⟩
    · have : zHr S n i = true := by
        cases hz : zHr S n i with
        | true => rfl
        | false => exact absurd (hr_0.mpr hz) h4
      rw [if_pos (Or.inr (Or.inr this))]
      exact ⟨rfl, hX⟩
set_option maxHeartbeats 4000000 in
set_option maxRecDepth 100000 in
theorem C_F_hear (l : Launch) (D : va_G) (ca : Nat → Nat) (ad : Nat → Nat) (S : mI) (I0 : mI) (J0 : mJ) (a1 : Int32) (a2 : Int32)  (hp : pX2 S I0 J0 a1 a2) : Met l yF_hear wF_hear ({ frames := 1, cells := 0, slots := 0, locals := 24 } : Room) (va_Pc [.ref (ad 0), .int a1, .int a2] (mPre D vwCl (xty ca) 459 ad (xmk ca ad) nL I0 J0)) (mQi D vwCl 459 ad (xmk ca ad) (qF_hear S I0 J0 a1 a2)) 0 0 (mA 459 ad) := by
  refine Met.ofW (cc := cF_hear) (maxL := 3) (ret := (some .boolean)) (by decide) rfl ?_
  intro p e s m args below meth c s₁ B hml hv
  obtain ⟨rfl, hP, hK, hD0, hN⟩ := hv
  have hx := B.exec
  have hb := B.bytes
  have hr := B.returns
  have htb : ∀ w ∈ wb, w.before _ s = true := fun w h => atoms_spec (ws := wF_hear) B.pre w (List.mem_cons_of_mem _ h)
  have hown : s.vm.findClass RF = some m.cls := findClass_of_methodNamed B.named
  have hlk := B.notSynchronized
  have hD := mw_Dm hD0
  have hS : va_S (mA 459 ad) s.heap s.heap [] := va_S.rf
  have hl := lv_entry ([.ref (ad 0), .int a1, .int a2]) (n := 3) (Nat.le_of_ble_eq_true rfl)
  rw [lg_entry_eq]
  generalize (lg_sl ([.ref (ad 0), .int a1, .int a2]) ++ List.replicate (3 - (lg_sl ([.ref (ad 0), .int a1, .int a2])).length) Slot.unset).toArray = ls at hl ⊢
  have hl : lv_has ls 3 [(0, .ref (ad 0)), (1, .int a1), (2, .int a2)] := hl
  have h := P_F_hear S I0 J0 a1 a2  hp  (qF_hear S I0 J0 a1 a2)  (fun _ _ _ h => h)
  unfold wp_F_hear at h
  refine lv_iload_n hx hb dF_hear_0 rfl (lv_at hl 1 rfl) ?_
  refine mc_r (va_runS (As := [.int a1]) (rest := []) ⟨hx, hb, hml, hown, htb⟩ (C_F_isNode l D ca ad I0 J0 a1) (va_cwS 1 htb (gd_s k2_95 k2_96 k1_1 k2_97) rfl rfl rfl (by decide +kernel) ⟨Nat.le_of_ble_eq_true rfl, Nat.le_of_ble_eq_true rfl⟩) (mPre_S hK hP hD hN) rfl rfl hl.1 rfl (lv_room (Nat.le_of_ble_eq_true rfl)) dF_hear_1 ⟨Nat.le_of_ble_eq_true rfl, Nat.le_of_ble_eq_true rfl⟩) hS (fun H locs hP hS => ?_)
  refine lv_if_eq (tgt := 29) hx hb dF_hear_4 (by decide) (fun hc => ?_) (fun hc => ?_)
  · have h := h.1 hc
    refine lv_iconst (v := 0) hx hb dF_hear_29 (by decide) ?_
    exact me_z hx hb hr hlk hP hS rfl h dF_hear_30
  · have h := h.2 hc
    refine lv_aload_n hx hb dF_hear_7 rfl (lv_at hl 0 rfl) ?_
    refine lv_iload_n hx hb dF_hear_8 rfl (lv_at hl 2 rfl) ?_
    refine mc_r (va_runV (As := [.int a2]) (rest := []) ⟨hx, hb, hml, hown, htb⟩ (C_F_isVote l D ca ad I0 J0 a2) (cwV 1 htb (gd_v k1_230 k1_232 ks5 k1_1 k1_233) rfl rfl rfl (by decide +kernel) ⟨Nat.le_of_ble_eq_true rfl, Nat.le_of_ble_eq_true rfl⟩) (mPre_V hK hP hD hN rfl (mw_at (xk_lt (show xk 0 = 0 from rfl) (by decide)) (xm_F (show xk 0 = 0 from rfl) _ _))) rfl rfl hl.1 rfl (lv_room (Nat.le_of_ble_eq_true rfl)) dF_hear_9 ⟨Nat.le_of_ble_eq_true rfl, Nat.le_of_ble_eq_true rfl⟩) hS (fun H locs hP hS => ?_)
    refine lv_if_eq (tgt := 29) hx hb dF_hear_12 (by decide) (fun hc => ?_) (fun hc => ?_)
    · have h := h.1 hc
      refine lv_iconst (v := 0) hx hb dF_hear_29 (by decide) ?_
      exact me_z hx hb hr hlk hP hS rfl h dF_hear_30
    · have h := h.2 hc
      refine lv_aload_n hx hb dF_hear_15 rfl (lv_at hl 0 rfl) ?_
      refine va_get (D := D) (ci := 5) (v := .ref (ad 444)) (C := RF) (T := TF) (N := 11) hx hb htb inF hown hK hP 0 (mw_at (xk_lt (show xk 0 = 0 from rfl) (by decide)) (xm_F (show xk 0 = 0 from rfl) _ _)) rfl 8 (by decide) (htb _ k1_170) (fun _ h9 => h9) rfl dF_hear_16 ?_
      refine lv_iload_n hx hb dF_hear_19 rfl (lv_at hl 1 rfl) ?_
      obtain ⟨hn3, h⟩ := h
      refine mr_aald hx hb hK hP 444 4 (xk_lt (show xk 444 = 9 from rfl) (by decide)) (xm_NA (show xk 444 = 9 from rfl) _ _) rfl hn3 dF_hear_20 ?_
      refine va_get (D := D) (ci := 2) (v := .ref (ad ((445 + 3 * a1.toNatClampNeg) + 1))) (C := RN) (T := TN) (N := 5) hx hb htb inN hown hK hP (445 + 3 * a1.toNatClampNeg) (mw_at (xk_lt (xk_N hn3) (by decide)) (xm_N (xk_N hn3) _ _)) rfl 1 (by decide) (htb _ k1_141) (fun _ h9 => h9) rfl dF_hear_21 ?_
      refine lv_iload_n hx hb dF_hear_24 rfl (lv_at hl 2 rfl) ?_
      obtain ⟨hn4, h⟩ := h
      refine mr_zald hx hb hK hP ((445 + 3 * a1.toNatClampNeg) + 1) 1 (xk_lt (xk_NH (xk_N hn3)) (by decide)) (xm_Z (xk_NH (xk_N hn3)) _ _) rfl hn4 dF_hear_25 ?_
      refine lv_if_eq (tgt := 31) hx hb dF_hear_26 (by decide) (fun hc => ?_) (fun hc => ?_)
      · have h := h.1 hc
        refine lv_aload_n hx hb dF_hear_31 rfl (lv_at hl 0 rfl) ?_
        refine lv_aload_n hx hb dF_hear_32 rfl (lv_at hl 0 rfl) ?_
        refine va_get (D := D) (ci := 5) (v := .ref (ad 444)) (C := RF) (T := TF) (N := 11) hx hb htb inF hown hK hP 0 (mw_at (xk_lt (show xk 0 = 0 from rfl) (by decide)) (xm_F (show xk 0 = 0 from rfl) _ _)) rfl 8 (by decide) (htb _ k1_170) (fun _ h9 => h9) rfl dF_hear_33 ?_
        refine lv_iload_n hx hb dF_hear_36 rfl (lv_at hl 1 rfl) ?_
        obtain ⟨hn5, h⟩ := h
        refine mr_aald hx hb hK hP 444 4 (xk_lt (show xk 444 = 9 from rfl) (by decide)) (xm_NA (show xk 444 = 9 from rfl) _ _) rfl hn5 dF_hear_37 ?_
        refine lv_iload_n hx hb dF_hear_38 rfl (lv_at hl 2 rfl) ?_
        obtain ⟨S6, h⟩ := h
        obtain ⟨hp7, h⟩ := h
        refine mc_v (va_runV (As := [.ref (ad (445 + 3 * a1.toNatClampNeg)), .int a2]) (rest := []) ⟨hx, hb, hml, hown, htb⟩ (C_F_takeInVote l D ca ad S6 I0 J0 (445 + 3 * a1.toNatClampNeg) a2 (xk_N hn5) hp7) (cwV 2 htb (gd_v k2_106 k2_108 ks12 k1_1 k2_109) rfl rfl rfl (by decide +kernel) ⟨Nat.le_of_ble_eq_true rfl, Nat.le_of_ble_eq_true rfl⟩) (mPre_V hK hP hD hN rfl (mw_at (xk_lt (show xk 0 = 0 from rfl) (by decide)) (xm_F (show xk 0 = 0 from rfl) _ _))) rfl rfl hl.1 rfl (lv_room (Nat.le_of_ble_eq_true rfl)) dF_hear_39 ⟨Nat.le_of_ble_eq_true rfl, Nat.le_of_ble_eq_true rfl⟩) hS (fun I9 J10 H locs hpost hP hS => ?_)
        have h := h I9 J10 hpost
        refine lv_iconst (v := 1) hx hb dF_hear_42 (by decide) ?_
        exact me_z hx hb hr hlk hP hS rfl h dF_hear_43
      · have h := h.2 hc
        refine lv_iconst (v := 0) hx hb dF_hear_29 (by decide) ?_
        exact me_z hx hb hr hlk hP hS rfl h dF_hear_30
