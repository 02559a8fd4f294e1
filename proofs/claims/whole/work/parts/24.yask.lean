theorem YR.isB {S I : mI} {J : mJ} (h : YR S I) {x : Int32} : fM_isBlock I J x = 0 ↔ ¬ iBl S x := by
  unfold fM_isBlock
  rw [fIn_0, h.2.2.2.2.2.1]
theorem YR.isV {S I : mI} {J : mJ} (h : YR S I) {x : Int32} : fM_isVote I J x = 0 ↔ ¬ iVt S x := by
  unfold fM_isVote
  rw [fIn_0, h.2.2.2.2.2.2.2]
theorem YR.isD {S I : mI} {J : mJ} (h : YR S I) {x : Int32} : fM_isValidator I J x = 0 ↔ ¬ iVd S x := by
  unfold fM_isValidator
  rw [fIn_0, h.2.2.1]
theorem isNm {I : mI} {J : mJ} {x : Int32} : fM_isNode I J x = 0 ↔ ¬ iNd x := by
  have e : fM_isNode I J x = fIn x 3 := by
    unfold fM_isNode fIn
    by_cases h1 : x < 0
    · rw [if_pos h1, if_pos h1]
    · rw [if_neg h1, if_neg h1]
      by_cases h2 : 2 < x
      · rw [if_pos h2, if_pos]
        rw [Int32.le_iff_toInt_le]
        rw [Int32.lt_iff_toInt_lt] at h2
        have e2 : (2 : Int32).toInt = 2 := rfl
        have e3 : (3 : Int32).toInt = 3 := rfl
        omega
      · rw [if_neg h2, if_neg]
        rw [Int32.le_iff_toInt_le]
        rw [Int32.lt_iff_toInt_lt] at h2
        have e2 : (2 : Int32).toInt = 2 := rfl
        have e3 : (3 : Int32).toInt = 3 := rfl
        omega
  rw [e]
  exact fIn_0
theorem out_0 {I : mI} {J : mJ} {x lo hi : Int32} : fM_outside I J x lo hi = 0 ↔ ¬ (x < lo ∨ hi < x) := by
  unfold fM_outside
  by_cases h1 : x < lo
  · rw [if_pos h1]; exact ⟨fun h => absurd h (by decide), fun h => absurd (Or.inl h1) h⟩
  · rw [if_neg h1]
    by_cases h2 : x ≤ hi
    · rw [if_pos h2]; exact ⟨fun _ q => q.elim h1 (fun z => Int32.not_lt.mpr h2 z), fun _ => rfl⟩
    · rw [if_neg h2]; exact ⟨fun h => absurd h (by decide), fun h => absurd (Or.inr (Int32.not_le.mp h2)) h⟩
theorem ixm (c n k : Nat) : nI c * nI n + nI k = nI (c * n + k) := by rw [pk_mul, nI_add]
theorem ix60 (n k : Nat) : (60 : Int32) * nI n + nI k = nI (60 * n + k) := ixm 60 n k
theorem ix80 (n k : Nat) : (80 : Int32) * nI n + nI k = nI (80 * n + k) := ixm 80 n k
theorem ix4 (n k : Nat) : (4 : Int32) * nI n + nI k = nI (4 * n + k) := ixm 4 n k
theorem ix2 (n : Nat) : (2 : Int32) * nI n = nI (2 * n) := pk_mul 2 n
theorem ix21 (n : Nat) : (2 : Int32) * nI n + 1 = nI (2 * n + 1) := ixm 2 n 1
theorem ic {n : Nat} (h : n < 1000) : (nI n).toNatClampNeg = n := nI_clamp (by omega)
theorem iin {n k : Nat} (h : n < k) (hk : k < 1000) : vp_in (nI n) k := vp_in_nI h (by omega)
theorem kn_0 {S : mI} {n b : Nat} : S 14 (60 * n + b) = 0 ↔ zKn S n b = false := by unfold zKn; simp
theorem nf {b : Bool} (h : ¬ b = false) : b = true := by cases b <;> simp_all
theorem RY.mu {S M : mI} (h : RY S M) (j k : Nat) (x : Int32) : RY (mu S j k x) (mu M j k x) := by
  obtain ⟨h0, h1, h2, h3, h4, h5, h6⟩ := h
  refine ⟨fun a a1 a2 => ?_, ?_, ?_, ?_, ?_, ?_, ?_⟩
  · by_cases e : a = j
    · subst e
      rw [mu_self, mu_self, h0 a a1 a2]
    · rw [mu_other _ _ _ e, mu_other _ _ _ e, h0 a a1 a2]
  · rw [mu_at, mu_at, h1]
  · rw [mu_at, mu_at, h2]
  · rw [mu_at, mu_at, h3]
  · rw [mu_at, mu_at, h4]
  · rw [mu_at, mu_at, h5]
  · rw [mu_at, mu_at, h6]
theorem and1 (y : Int32) : (y &&& 1 = 0 ∧ bt y 0 = false) ∨ (y &&& 1 = 1 ∧ bt y 0 = true) := by
  cases h : bt y 0 with
  | false =>
    refine Or.inl ⟨b_ext (fun i hi => ?_), rfl⟩
    rw [b_and, b_1, b_0]
    by_cases e : i = 0
    · subst e; rw [h]; rfl
    · rw [decide_eq_false e, Bool.and_false]
  | true =>
    refine Or.inr ⟨b_ext (fun i hi => ?_), rfl⟩
    rw [b_and, b_1]
    by_cases e : i = 0
    · subst e; rw [h]; rfl
    · rw [decide_eq_false e, Bool.and_false]
theorem bi_1 (x : Int32) {n : Nat} (hn : n < 31) : ((x >>> (nI n &&& 31)) &&& 1) = 1 ↔ bt x n = true := by
  have h0 := bi_in x hn
  rcases and1 (x >>> (nI n &&& 31)) with h | h
  · rw [h.1]
    have := h0.mp h.1
    rw [this]
    exact ⟨fun z => absurd z (by decide), fun z => absurd z (by decide)⟩
  · rw [h.1]
    refine ⟨fun _ => nf (fun z => ?_), fun _ => rfl⟩
    have := h0.mpr z
    rw [h.1] at this
    exact absurd this (by decide)
theorem oI_neg : oI none < 0 := by decide
theorem oI_nn {k : Nat} (h : k < 2 ^ 31) : ¬ oI (some k) < 0 := nI_pos h
theorem zKf_gt (S : mI) (n a : Nat) : ∀ k c, (zKf S n a k).1 = some c → a < c := by
  intro k
  induction k with
  | zero => intro c h; simp [zKf] at h
  | succ k ih =>
    intro c h
    simp only [zKf] at h
    by_cases q : a < k ∧ zKn S n k = true ∧ S 2 k = nI a ∧ (zKf S n a k).2 < zSup S n k
    · rw [if_pos q] at h
      cases h
      exact q.1
    · rw [if_neg q] at h
      exact ih c h
def pY0 (S I : mI) (_ : mJ) : Prop := YR S I
def pY1 (S I : mI) (_ : mJ) (_ : Int32) : Prop := YR S I
def pY2 (S I : mI) (_ : mJ) (_ _ : Int32) : Prop := YR S I
def pY3 (S I : mI) (_ : mJ) (_ _ _ : Int32) : Prop := YR S I
def fM_ballot (S _I : mI) (_ : mJ) (b e : Int32) : Int32 := rBlt S b e
def fM_knows (S _I : mI) (_ : mJ) (b e : Int32) : Int32 := rKno S b e
def fM_checkpoint (S _I : mI) (_ : mJ) (n w : Int32) : Int32 := rCkp S n w
def fM_conflict (S _I : mI) (_ : mJ) (n w : Int32) : Int32 := rCon S n w
def fM_head (S _I : mI) (_ : mJ) (n : Int32) : Int32 := rHed S n
def fM_guilty (S _I : mI) (_ : mJ) (n w : Int32) : Int32 := rGui S n w
def fM_proof (S _I : mI) (_ : mJ) (n : Int32) : Int32 := rPrf S n
def fM_pair (S _I : mI) (_ : mJ) (v x a : Int32) : Int32 := oI (zPo (zQ S v x (!decide (a = 0))) (zVc S) 0)
def pM_isHeard (S I : mI) (_ : mJ) (_ i : Int32) : Prop := YR S I ∧ iV S i
def fM_isHeard (S _I : mI) (_ : mJ) (x i : Int32) : Int32 := bz (zAny S x (cN i))
def pM_latest (S I : mI) (_ : mJ) (n v : Int32) : Prop := YR S I ∧ (∃ k, k < 3 ∧ n = nI k) ∧ ∃ k, k < 7 ∧ v = nI k
def fM_latest (S _I : mI) (_ : mJ) (n v : Int32) : Int32 := oI (zLf S (cN n) (cN v) (zVc S))
def pM_support (S I : mI) (_ : mJ) (n c : Int32) : Prop := YR S I ∧ (∃ k, k < 3 ∧ n = nI k) ∧ ∃ k, k < 60 ∧ c = nI k
def fM_support (S _I : mI) (_ : mJ) (n c : Int32) : Int32 := zSup S (cN n) (cN c)
def qM_block (S _I : mI) (_ : mJ) (b w : Int32) (r : Int32) (I' : mI) (_ : mJ) : Prop := r = rBlk S b w ∧ RY S I'
def qM_balance (S _I : mI) (_ : mJ) (b w : Int32) (r : Int32) (I' : mI) (_ : mJ) : Prop := r = rBal S b w ∧ RY S I'
def qM_punished (S _I : mI) (_ : mJ) (b w : Int32) (r : Int32) (I' : mI) (_ : mJ) : Prop := r = rPun S b w ∧ RY S I'
def qM_counted (S _I : mI) (_ : mJ) (b w : Int32) (r : Int32) (I' : mI) (_ : mJ) : Prop := r = rCtd S b w ∧ RY S I'
def qM_append (S _I : mI) (_ : mJ) (x : Int32) (r : Int32) (I' : mI) (_ : mJ) : Prop := r = (oApp S x).1 ∧ RY (oApp S x).2 I'
def qM_include (S _I : mI) (_ : mJ) (x : Int32) (r : Int32) (I' : mI) (_ : mJ) : Prop := r = (oInc S x).1 ∧ RY (oInc S x).2 I'
def qM_accuse (S _I : mI) (_ : mJ) (x y : Int32) (r : Int32) (I' : mI) (_ : mJ) : Prop := r = (oAcc S x y).1 ∧ RY (oAcc S x y).2 I'
def qM_clear (S _I : mI) (_ : mJ) (r : Int32) (I' : mI) (_ : mJ) : Prop := r = (oClr S).1 ∧ RY (oClr S).2 I'
def qM_hear (S _I : mI) (_ : mJ) (x y : Int32) (r : Int32) (I' : mI) (_ : mJ) : Prop := r = (oHea S x y).1 ∧ RY (oHea S x y).2 I'

def wp_M_ballot (R : Int32 → mI → mJ → Prop) (I0 : mI) (J0 : mJ) (a1 : Int32) (a2 : Int32) : Prop :=
  ((¬ ((fM_isVote I0 J0 a1) = 0) → ((a2 = 0 → (vp_in a1 80 ∧ R (I0 7 a1.toNatClampNeg) I0 J0)) ∧ (a2 = 1 → (vp_in a1 80 ∧ R (I0 8 a1.toNatClampNeg) I0 J0)) ∧ (a2 = 2 → (vp_in a1 80 ∧ R (I0 9 a1.toNatClampNeg) I0 J0)) ∧ (a2 = 3 → (vp_in a1 80 ∧ R (I0 10 a1.toNatClampNeg) I0 J0)) ∧ (a2 = 4 → (vp_in a1 80 ∧ R (I0 11 a1.toNatClampNeg) I0 J0)) ∧ (a2 = 5 → (vp_in a1 80 ∧ R (I0 12 a1.toNatClampNeg) I0 J0)) ∧ (a2 = 6 → (vp_in a1 80 ∧ R (I0 13 a1.toNatClampNeg) I0 J0)) ∧ (¬ a2 = 0 ∧ ¬ a2 = 1 ∧ ¬ a2 = 2 ∧ ¬ a2 = 3 ∧ ¬ a2 = 4 ∧ ¬ a2 = 5 ∧ ¬ a2 = 6 → R (-1) I0 J0))) ∧ ((fM_isVote I0 J0 a1) = 0 → R (-1) I0 J0))
theorem P_M_ballot (S : mI) (I0 : mI) (J0 : mJ) (a1 : Int32) (a2 : Int32)  (hp : pY2 S I0 J0 a1 a2)  (R : Int32 → mI → mJ → Prop)  (hR : R (fM_ballot S I0 J0 a1 a2) I0 J0) : wp_M_ballot R I0 J0 a1 a2 := by
  have hY : YR S I0 := hp
  have hb := hY.1.b
  unfold fM_ballot rBlt at hR
  unfold wp_M_ballot
  refine ⟨fun h => ?_, fun h => ?_⟩
  · have h1 : iVt S a1 := nn (fun q => h (hY.isV.mpr q))
    rw [if_neg (fun q => q h1)] at hR
    obtain ⟨n, hn, rfl⟩ := hY.1.iV h1
    rw [cN_nI (by omega)] at hR
    rw [ic (by omega), hY.r (j := 7) (by omega) (by omega), hY.r (j := 8) (by omega) (by omega), hY.r (j := 9) (by omega) (by omega), hY.r (j := 10) (by omega) (by omega), hY.r (j := 11) (by omega) (by omega), hY.r (j := 12) (by omega) (by omega), hY.r (j := 13) (by omega) (by omega)]
    have hin : vp_in (nI n) 80 := iin (by omega) (by omega)
    refine ⟨fun hw => ⟨hin, ?_⟩, fun hw => ⟨hin, ?_⟩, fun hw => ⟨hin, ?_⟩, fun hw => ⟨hin, ?_⟩, fun hw => ⟨hin, ?_⟩, fun hw => ⟨hin, ?_⟩, fun hw => ⟨hin, ?_⟩, fun hw => ?_⟩
    · subst hw; rw [if_pos rfl] at hR; exact hR
    · subst hw; rw [if_neg (by decide), if_pos rfl] at hR; exact hR
    · subst hw; rw [if_neg (by decide), if_neg (by decide), if_pos rfl] at hR; exact hR
    · subst hw; rw [if_neg (by decide), if_neg (by decide), if_neg (by decide), if_pos rfl] at hR; exact hR
    · subst hw; rw [if_neg (by decide), if_neg (by decide), if_neg (by decide), if_neg (by decide), if_pos rfl] at hR; exact hR
    · subst hw; rw [if_neg (by decide), if_neg (by decide), if_neg (by decide), if_neg (by decide), if_neg (by decide), if_pos rfl] at hR; exact hR
    · subst hw; rw [if_neg (by decide), if_neg (by decide), if_neg (by decide), if_neg (by decide), if_neg (by decide), if_neg (by decide), if_pos rfl] at hR; exact hR
    · rw [if_neg hw.1, if_neg hw.2.1, if_neg hw.2.2.1, if_neg hw.2.2.2.1, if_neg hw.2.2.2.2.1, if_neg hw.2.2.2.2.2.1, if_neg hw.2.2.2.2.2.2] at hR; exact hR
  · rw [if_pos (hY.isV.mp h)] at hR
    exact hR
set_option maxHeartbeats 4000000 in
set_option maxRecDepth 100000 in
theorem C_M_ballot (l : Launch) (D : va_G) (ca : Nat → Nat) (ad : Nat → Nat) (S : mI) (I0 : mI) (J0 : mJ) (a1 : Int32) (a2 : Int32)  (hp : pY2 S I0 J0 a1 a2) : Met l yM_ballot wM_ballot ({ frames := 1, cells := 0, slots := 0, locals := 21 } : Room) (va_Pc [.ref (ad 0), .int a1, .int a2] (mPre D vwCl (xty ca) 23 ad (ymk ca ad) nL I0 J0)) (mQi D vwCl 23 ad (ymk ca ad) (fun r I' J' => r = fM_ballot S I0 J0 a1 a2 ∧ I' = I0 ∧ J' = J0)) 0 0 (mA 23 ad) := by
  refine Met.ofW (cc := cM_ballot) (maxL := 3) (ret := (some .int)) (by decide) rfl ?_
  intro p e s m args below meth c s₁ B hml hv
  obtain ⟨rfl, hP, hK, hD0, hN⟩ := hv
  have hx := B.exec
  have hb := B.bytes
  have hr := B.returns
  have htb : ∀ w ∈ wb, w.before _ s = true := fun w h => atoms_spec (ws := wM_ballot) B.pre w (List.mem_cons_of_mem _ h)
  have hown : s.vm.findClass RM = some m.cls := findClass_of_methodNamed B.named
  have hlk := B.notSynchronized
  have hD := mw_Dm hD0
  have hS : va_S (mA 23 ad) s.heap s.heap [] := va_S.rf
  have hl := lv_entry ([.ref (ad 0), .int a1, .int a2]) (n := 3) (Nat.le_of_ble_eq_true rfl)
  rw [lg_entry_eq]
  generalize (lg_sl ([.ref (ad 0), .int a1, .int a2]) ++ List.replicate (3 - (lg_sl ([.ref (ad 0), .int a1, .int a2])).length) Slot.unset).toArray = ls at hl ⊢
  have hl : lv_has ls 3 [(0, .ref (ad 0)), (1, .int a1), (2, .int a2)] := hl
  have h := P_M_ballot S I0 J0 a1 a2  hp  (fun r I' J' => r = fM_ballot S I0 J0 a1 a2 ∧ I' = I0 ∧ J' = J0)  ⟨rfl, rfl, rfl⟩
  unfold wp_M_ballot at h
  refine lv_aload_n hx hb dM_ballot_0 rfl (lv_at hl 0 rfl) ?_
  refine lv_iload_n hx hb dM_ballot_1 rfl (lv_at hl 1 rfl) ?_
  refine mc_r (va_runV (As := [.int a1]) (rest := []) ⟨hx, hb, hml, hown, htb⟩ (C_M_isVote l D ca ad I0 J0 a1) (cwV 1 htb (gd_v k3_87 k3_89 ks30 k1_8 k3_90) rfl rfl rfl (by decide +kernel) ⟨Nat.le_of_ble_eq_true rfl, Nat.le_of_ble_eq_true rfl⟩) (mPre_V hK hP hD hN rfl (mw_at (by decide) (ym_0 _ _ _ _))) rfl rfl hl.1 rfl (lv_room (Nat.le_of_ble_eq_true rfl)) dM_ballot_2 ⟨Nat.le_of_ble_eq_true rfl, Nat.le_of_ble_eq_true rfl⟩) hS (fun H locs hP hS => ?_)
  refine lv_if_ne (tgt := 10) hx hb dM_ballot_5 (by decide) (fun hc => ?_) (fun hc => ?_)
  · have h := h.1 hc
    refine lv_iload_n hx hb dM_ballot_10 rfl (lv_at hl 2 rfl) ?_
    by_cases hc0 : a2 = 0
    · have h := h.1 hc0
      refine lv_tableIn (off := 41) (tgt := 52) hx hb dM_ballot_11 (by rw [hc0]; decide) (by rw [hc0]; decide) (by rw [hc0]; rfl) (by decide) ?_
      refine lv_aload_n hx hb dM_ballot_52 rfl (lv_at hl 0 rfl) ?_
      refine va_get (D := D) (ci := 6) (v := .ref (ad 7)) (C := RM) (T := TM) (N := 33) hx hb htb inM hown hK hP 0 (mw_at (by decide) (ym_0 _ _ _ _)) rfl 12 (by decide) (htb _ k2_184) (fun _ h9 => h9) rfl dM_ballot_53 ?_
      refine lv_iload_n hx hb dM_ballot_56 rfl (lv_at hl 1 rfl) ?_
      obtain ⟨hn2, h⟩ := h
      refine mr_iald hx hb hK hP 7 0 (by decide) rfl rfl hn2 dM_ballot_57 ?_
      exact me_i hx hb hr hlk hP hS h dM_ballot_58
    by_cases hc1 : a2 = 1
    · have h := h.2.1 hc1
      refine lv_tableIn (off := 48) (tgt := 59) hx hb dM_ballot_11 (by rw [hc1]; decide) (by rw [hc1]; decide) (by rw [hc1]; rfl) (by decide) ?_
      refine lv_aload_n hx hb dM_ballot_59 rfl (lv_at hl 0 rfl) ?_
      refine va_get (D := D) (ci := 6) (v := .ref (ad 8)) (C := RM) (T := TM) (N := 33) hx hb htb inM hown hK hP 0 (mw_at (by decide) (ym_0 _ _ _ _)) rfl 13 (by decide) (htb _ k2_185) (fun _ h9 => h9) rfl dM_ballot_60 ?_
      refine lv_iload_n hx hb dM_ballot_63 rfl (lv_at hl 1 rfl) ?_
      obtain ⟨hn3, h⟩ := h
      refine mr_iald hx hb hK hP 8 0 (by decide) rfl rfl hn3 dM_ballot_64 ?_
      exact me_i hx hb hr hlk hP hS h dM_ballot_65
    by_cases hc2 : a2 = 2
    · have h := h.2.2.1 hc2
      refine lv_tableIn (off := 55) (tgt := 66) hx hb dM_ballot_11 (by rw [hc2]; decide) (by rw [hc2]; decide) (by rw [hc2]; rfl) (by decide) ?_
      refine lv_aload_n hx hb dM_ballot_66 rfl (lv_at hl 0 rfl) ?_
      refine va_get (D := D) (ci := 6) (v := .ref (ad 9)) (C := RM) (T := TM) (N := 33) hx hb htb inM hown hK hP 0 (mw_at (by decide) (ym_0 _ _ _ _)) rfl 14 (by decide) (htb _ k2_186) (fun _ h9 => h9) rfl dM_ballot_67 ?_
      refine lv_iload_n hx hb dM_ballot_70 rfl (lv_at hl 1 rfl) ?_
      obtain ⟨hn4, h⟩ := h
      refine mr_iald hx hb hK hP 9 0 (by decide) rfl rfl hn4 dM_ballot_71 ?_
      exact me_i hx hb hr hlk hP hS h dM_ballot_72
    by_cases hc3 : a2 = 3
    · have h := h.2.2.2.1 hc3
      refine lv_tableIn (off := 62) (tgt := 73) hx hb dM_ballot_11 (by rw [hc3]; decide) (by rw [hc3]; decide) (by rw [hc3]; rfl) (by decide) ?_
      refine lv_aload_n hx hb dM_ballot_73 rfl (lv_at hl 0 rfl) ?_
      refine va_get (D := D) (ci := 6) (v := .ref (ad 10)) (C := RM) (T := TM) (N := 33) hx hb htb inM hown hK hP 0 (mw_at (by decide) (ym_0 _ _ _ _)) rfl 15 (by decide) (htb _ k2_187) (fun _ h9 => h9) rfl dM_ballot_74 ?_
      refine lv_iload_n hx hb dM_ballot_77 rfl (lv_at hl 1 rfl) ?_
      obtain ⟨hn5, h⟩ := h
      refine mr_iald hx hb hK hP 10 0 (by decide) rfl rfl hn5 dM_ballot_78 ?_
      exact me_i hx hb hr hlk hP hS h dM_ballot_79
    by_cases hc4 : a2 = 4
    · have h := h.2.2.2.2.1 hc4
      refine lv_tableIn (off := 69) (tgt := 80) hx hb dM_ballot_11 (by rw [hc4]; decide) (by rw [hc4]; decide) (by rw [hc4]; rfl) (by decide) ?_
      refine lv_aload_n hx hb dM_ballot_80 rfl (lv_at hl 0 rfl) ?_
      refine va_get (D := D) (ci := 6) (v := .ref (ad 11)) (C := RM) (T := TM) (N := 33) hx hb htb inM hown hK hP 0 (mw_at (by decide) (ym_0 _ _ _ _)) rfl 16 (by decide) (htb _ k2_188) (fun _ h9 => h9) rfl dM_ballot_81 ?_
      refine lv_iload_n hx hb dM_ballot_84 rfl (lv_at hl 1 rfl) ?_
      obtain ⟨hn6, h⟩ := h
      refine mr_iald hx hb hK hP 11 0 (by decide) rfl rfl hn6 dM_ballot_85 ?_
      exact me_i hx hb hr hlk hP hS h dM_ballot_86
    by_cases hc5 : a2 = 5
    · have h := h.2.2.2.2.2.1 hc5
      refine lv_tableIn (off := 76) (tgt := 87) hx hb dM_ballot_11 (by rw [hc5]; decide) (by rw [hc5]; decide) (by rw [hc5]; rfl) (by decide) ?_
      refine lv_aload_n hx hb dM_ballot_87 rfl (lv_at hl 0 rfl) ?_
      refine va_get (D := D) (ci := 6) (v := .ref (ad 12)) (C := RM) (T := TM) (N := 33) hx hb htb inM hown hK hP 0 (mw_at (by decide) (ym_0 _ _ _ _)) rfl 17 (by decide) (htb _ k2_189) (fun _ h9 => h9) rfl dM_ballot_88 ?_
      refine lv_iload_n hx hb dM_ballot_91 rfl (lv_at hl 1 rfl) ?_
      obtain ⟨hn7, h⟩ := h
      refine mr_iald hx hb hK hP 12 0 (by decide) rfl rfl hn7 dM_ballot_92 ?_
      exact me_i hx hb hr hlk hP hS h dM_ballot_93
    by_cases hc6 : a2 = 6
    · have h := h.2.2.2.2.2.2.1 hc6
      refine lv_tableIn (off := 83) (tgt := 94) hx hb dM_ballot_11 (by rw [hc6]; decide) (by rw [hc6]; decide) (by rw [hc6]; rfl) (by decide) ?_
      refine lv_aload_n hx hb dM_ballot_94 rfl (lv_at hl 0 rfl) ?_
      refine va_get (D := D) (ci := 6) (v := .ref (ad 13)) (C := RM) (T := TM) (N := 33) hx hb htb inM hown hK hP 0 (mw_at (by decide) (ym_0 _ _ _ _)) rfl 18 (by decide) (htb _ k2_190) (fun _ h9 => h9) rfl dM_ballot_95 ?_
      refine lv_iload_n hx hb dM_ballot_98 rfl (lv_at hl 1 rfl) ?_
      obtain ⟨hn8, h⟩ := h
      refine mr_iald hx hb hK hP 13 0 (by decide) rfl rfl hn8 dM_ballot_99 ?_
      exact me_i hx hb hr hlk hP hS h dM_ballot_100
    have h := h.2.2.2.2.2.2.2 ⟨hc0, hc1, hc2, hc3, hc4, hc5, hc6⟩
    refine lv_tableOut (tgt := 101) hx hb dM_ballot_11 (sw_out (by have q0 := sw_ne (k := 0) (n := 0) rfl hc0; have q1 := sw_ne (k := 1) (n := 1) rfl hc1; have q2 := sw_ne (k := 2) (n := 2) rfl hc2; have q3 := sw_ne (k := 3) (n := 3) rfl hc3; have q4 := sw_ne (k := 4) (n := 4) rfl hc4; have q5 := sw_ne (k := 5) (n := 5) rfl hc5; have q6 := sw_ne (k := 6) (n := 6) rfl hc6; omega)) (by decide) ?_
    refine lv_iconst (v := (-1)) hx hb dM_ballot_101 (by decide) ?_
    exact me_i hx hb hr hlk hP hS h dM_ballot_102
  · have h := h.2 hc
    refine lv_iconst (v := (-1)) hx hb dM_ballot_8 (by decide) ?_
    exact me_i hx hb hr hlk hP hS h dM_ballot_9
def wp_M_knows (R : Int32 → mI → mJ → Prop) (I0 : mI) (J0 : mJ) (a1 : Int32) (a2 : Int32) : Prop :=
  (((fM_isNode I0 J0 a1) = 0 → R 0 I0 J0) ∧ (¬ ((fM_isNode I0 J0 a1) = 0) → (((fM_isBlock I0 J0 a2) = 0 → R 0 I0 J0) ∧ (¬ ((fM_isBlock I0 J0 a2) = 0) → (vp_in ((60 * a1) + a2) 180 ∧ (((I0 14 ((60 * a1) + a2).toNatClampNeg) = 0 → R 0 I0 J0) ∧ (¬ ((I0 14 ((60 * a1) + a2).toNatClampNeg) = 0) → R 1 I0 J0)))))))
theorem P_M_knows (S : mI) (I0 : mI) (J0 : mJ) (a1 : Int32) (a2 : Int32)  (hp : pY2 S I0 J0 a1 a2)  (R : Int32 → mI → mJ → Prop)  (hR : R (fM_knows S I0 J0 a1 a2) I0 J0) : wp_M_knows R I0 J0 a1 a2 := by
  have hY : YR S I0 := hp
  have hb := hY.1.b
  unfold fM_knows rKno at hR
  unfold wp_M_knows
  refine ⟨fun h => ?_, fun h => ⟨fun h2 => ?_, fun h2 => ?_⟩⟩
  · rw [if_pos (Or.inl (isNm.mp h))] at hR
    exact hR
  · rw [if_pos (Or.inr (hY.isB.mp h2))] at hR
    exact hR
  · have h1 : iNd a1 := nn (fun q => h (isNm.mpr q))
    have h3 : iBl S a2 := nn (fun q => h2 (hY.isB.mpr q))
    rw [if_neg (fun q => q.elim (fun z => z h1) (fun z => z h3))] at hR
    obtain ⟨n, hn, rfl⟩ := iNd_n h1
    obtain ⟨v, hv, rfl⟩ := hY.1.iB h3
    rw [cN_nI (by omega), cN_nI (by omega)] at hR
    rw [ix60, ic (by omega), hY.r (j := 14) (by omega) (by omega), kn_0]
    exact ⟨iin (by omega) (by omega), fun q => by rw [q] at hR; exact hR, fun q => by rw [nf q] at hR; exact hR⟩
set_option maxHeartbeats 4000000 in
set_option maxRecDepth 100000 in
theorem C_M_knows (l : Launch) (D : va_G) (ca : Nat → Nat) (ad : Nat → Nat) (S : mI) (I0 : mI) (J0 : mJ) (a1 : Int32) (a2 : Int32)  (hp : pY2 S I0 J0 a1 a2) : Met l yM_knows wM_knows ({ frames := 1, cells := 0, slots := 0, locals := 21 } : Room) (va_Pc [.ref (ad 0), .int a1, .int a2] (mPre D vwCl (xty ca) 23 ad (ymk ca ad) nL I0 J0)) (mQi D vwCl 23 ad (ymk ca ad) (fun r I' J' => r = fM_knows S I0 J0 a1 a2 ∧ I' = I0 ∧ J' = J0)) 0 0 (mA 23 ad) := by
  refine Met.ofW (cc := cM_knows) (maxL := 3) (ret := (some .boolean)) (by decide) rfl ?_
  intro p e s m args below meth c s₁ B hml hv
  obtain ⟨rfl, hP, hK, hD0, hN⟩ := hv
  have hx := B.exec
  have hb := B.bytes
  have hr := B.returns
  have htb : ∀ w ∈ wb, w.before _ s = true := fun w h => atoms_spec (ws := wM_knows) B.pre w (List.mem_cons_of_mem _ h)
  have hown : s.vm.findClass RM = some m.cls := findClass_of_methodNamed B.named
  have hlk := B.notSynchronized
  have hD := mw_Dm hD0
  have hS : va_S (mA 23 ad) s.heap s.heap [] := va_S.rf
  have hl := lv_entry ([.ref (ad 0), .int a1, .int a2]) (n := 3) (Nat.le_of_ble_eq_true rfl)
  rw [lg_entry_eq]
  generalize (lg_sl ([.ref (ad 0), .int a1, .int a2]) ++ List.replicate (3 - (lg_sl ([.ref (ad 0), .int a1, .int a2])).length) Slot.unset).toArray = ls at hl ⊢
  have hl : lv_has ls 3 [(0, .ref (ad 0)), (1, .int a1), (2, .int a2)] := hl
  have h := P_M_knows S I0 J0 a1 a2  hp  (fun r I' J' => r = fM_knows S I0 J0 a1 a2 ∧ I' = I0 ∧ J' = J0)  ⟨rfl, rfl, rfl⟩
  unfold wp_M_knows at h
  refine lv_iload_n hx hb dM_knows_0 rfl (lv_at hl 1 rfl) ?_
  refine mc_r (va_runS (As := [.int a1]) (rest := []) ⟨hx, hb, hml, hown, htb⟩ (C_M_isNode l D ca ad I0 J0 a1) (va_cwS 1 htb (gd_s k3_135 k3_136 k1_8 k3_137) rfl rfl rfl (by decide +kernel) ⟨Nat.le_of_ble_eq_true rfl, Nat.le_of_ble_eq_true rfl⟩) (mPre_S hK hP hD hN) rfl rfl hl.1 rfl (lv_room (Nat.le_of_ble_eq_true rfl)) dM_knows_1 ⟨Nat.le_of_ble_eq_true rfl, Nat.le_of_ble_eq_true rfl⟩) hS (fun H locs hP hS => ?_)
  refine lv_if_eq (tgt := 33) hx hb dM_knows_4 (by decide) (fun hc => ?_) (fun hc => ?_)
  · have h := h.1 hc
    refine lv_iconst (v := 0) hx hb dM_knows_33 (by decide) ?_
    exact me_z hx hb hr hlk hP hS rfl h dM_knows_34
  · have h := h.2 hc
    refine lv_aload_n hx hb dM_knows_7 rfl (lv_at hl 0 rfl) ?_
    refine lv_iload_n hx hb dM_knows_8 rfl (lv_at hl 2 rfl) ?_
    refine mc_r (va_runV (As := [.int a2]) (rest := []) ⟨hx, hb, hml, hown, htb⟩ (C_M_isBlock l D ca ad I0 J0 a2) (cwV 1 htb (gd_v k3_40 k3_42 ks20 k1_8 k3_43) rfl rfl rfl (by decide +kernel) ⟨Nat.le_of_ble_eq_true rfl, Nat.le_of_ble_eq_true rfl⟩) (mPre_V hK hP hD hN rfl (mw_at (by decide) (ym_0 _ _ _ _))) rfl rfl hl.1 rfl (lv_room (Nat.le_of_ble_eq_true rfl)) dM_knows_9 ⟨Nat.le_of_ble_eq_true rfl, Nat.le_of_ble_eq_true rfl⟩) hS (fun H locs hP hS => ?_)
    refine lv_if_eq (tgt := 33) hx hb dM_knows_12 (by decide) (fun hc => ?_) (fun hc => ?_)
    · have h := h.1 hc
      refine lv_iconst (v := 0) hx hb dM_knows_33 (by decide) ?_
      exact me_z hx hb hr hlk hP hS rfl h dM_knows_34
    · have h := h.2 hc
      refine lv_aload_n hx hb dM_knows_15 rfl (lv_at hl 0 rfl) ?_
      refine va_get (D := D) (ci := 6) (v := .ref (ad 14)) (C := RM) (T := TM) (N := 33) hx hb htb inM hown hK hP 0 (mw_at (by decide) (ym_0 _ _ _ _)) rfl 19 (by decide) (htb _ k2_191) (fun _ h9 => h9) rfl dM_knows_16 ?_
      refine lv_bipush (v := 60) hx hb dM_knows_19 (by decide) ?_
      refine lv_iload_n hx hb dM_knows_21 rfl (lv_at hl 1 rfl) ?_
      refine lv_imul hx hb dM_knows_22 ?_
      refine lv_iload_n hx hb dM_knows_23 rfl (lv_at hl 2 rfl) ?_
      refine lv_iadd hx hb dM_knows_24 ?_
      obtain ⟨hn3, h⟩ := h
      refine mr_zald hx hb hK hP 14 1 (by decide) rfl rfl hn3 dM_knows_25 ?_
      refine lv_if_eq (tgt := 33) hx hb dM_knows_26 (by decide) (fun hc => ?_) (fun hc => ?_)
      · have h := h.1 hc
        refine lv_iconst (v := 0) hx hb dM_knows_33 (by decide) ?_
        exact me_z hx hb hr hlk hP hS rfl h dM_knows_34
      · have h := h.2 hc
        refine lv_iconst (v := 1) hx hb dM_knows_29 (by decide) ?_
        refine lv_goto (tgt := 34) hx hb dM_knows_30 (by decide) ?_
        exact me_z hx hb hr hlk hP hS rfl h dM_knows_34
def wp_M_checkpoint (R : Int32 → mI → mJ → Prop) (I0 : mI) (J0 : mJ) (a1 : Int32) (a2 : Int32) : Prop :=
  (((fM_isNode I0 J0 a1) = 0 → R (-1) I0 J0) ∧ (¬ ((fM_isNode I0 J0 a1) = 0) → (((fM_outside I0 J0 a2 0 3) = 0 → ((¬ ((a2 - a2 / 2 * 2) = 0) → (vp_in ((2 * a1) + (a2 / 2)) 6 ∧ R (I0 17 ((2 * a1) + (a2 / 2)).toNatClampNeg) I0 J0)) ∧ ((a2 - a2 / 2 * 2) = 0 → (vp_in ((2 * a1) + (a2 / 2)) 6 ∧ R (I0 16 ((2 * a1) + (a2 / 2)).toNatClampNeg) I0 J0)))) ∧ (¬ ((fM_outside I0 J0 a2 0 3) = 0) → R (-1) I0 J0))))
theorem P_M_checkpoint (S : mI) (I0 : mI) (J0 : mJ) (a1 : Int32) (a2 : Int32)  (hp : pY2 S I0 J0 a1 a2)  (R : Int32 → mI → mJ → Prop)  (hR : R (fM_checkpoint S I0 J0 a1 a2) I0 J0) : wp_M_checkpoint R I0 J0 a1 a2 := by
  have hY : YR S I0 := hp
  have hb := hY.1.b
  unfold fM_checkpoint rCkp at hR
  unfold wp_M_checkpoint
  refine ⟨fun h => ?_, fun h => ?_⟩
  · rw [if_pos (isNm.mp h)] at hR
    exact hR
  · have h1 : iNd a1 := nn (fun q => h (isNm.mpr q))
    rw [if_neg (fun q => q h1)] at hR
    obtain ⟨n, hn, rfl⟩ := iNd_n h1
    rw [cN_nI (by omega)] at hR
    refine ⟨fun h2 => ?_, fun h2 => ?_⟩
    · have h3 := out_0.mp h2
      obtain ⟨k, hk, rfl⟩ := nI_of2 (n := 3) (M := 3) rfl (fun q => h3 (Or.inl q)) (Int32.not_lt.mp (fun q => h3 (Or.inr q)))
      have m0 : (2 : Int32) * nI n + 0 = nI (2 * n) := by rw [Int32.add_zero]; exact ix2 n
      rcases (show k = 0 ∨ k = 1 ∨ k = 2 ∨ k = 3 by omega) with rfl | rfl | rfl | rfl
      · rw [show nI 0 / 2 = 0 from by decide, m0, ic (by omega), hY.r (j := 16) (by omega) (by omega), hY.r (j := 17) (by omega) (by omega)]
        rw [if_pos (by decide)] at hR
        exact ⟨fun z => absurd (by decide) z, fun _ => ⟨iin (by omega) (by omega), hR⟩⟩
      · rw [show nI 1 / 2 = 0 from by decide, m0, ic (by omega), hY.r (j := 16) (by omega) (by omega), hY.r (j := 17) (by omega) (by omega)]
        rw [if_neg (by decide), if_pos (by decide)] at hR
        exact ⟨fun _ => ⟨iin (by omega) (by omega), hR⟩, fun z => absurd z (by decide)⟩
      · rw [show nI 2 / 2 = 1 from by decide, ix21, ic (by omega), hY.r (j := 16) (by omega) (by omega), hY.r (j := 17) (by omega) (by omega)]
        rw [if_neg (by decide), if_neg (by decide), if_pos (by decide)] at hR
        exact ⟨fun z => absurd (by decide) z, fun _ => ⟨iin (by omega) (by omega), hR⟩⟩
      · rw [show nI 3 / 2 = 1 from by decide, ix21, ic (by omega), hY.r (j := 16) (by omega) (by omega), hY.r (j := 17) (by omega) (by omega)]
        rw [if_neg (by decide), if_neg (by decide), if_neg (by decide), if_pos (by decide)] at hR
        exact ⟨fun _ => ⟨iin (by omega) (by omega), hR⟩, fun z => absurd z (by decide)⟩
    · have no : ∀ k : Int32, ¬ (k < 0 ∨ 3 < k) → ¬ a2 = k := fun k hk e => h2 (out_0.mpr (by rw [e]; exact hk))
      rw [if_neg (no 0 (by decide)), if_neg (no 1 (by decide)), if_neg (no 2 (by decide)), if_neg (no 3 (by decide))] at hR
      exact hR
set_option maxHeartbeats 4000000 in
set_option maxRecDepth 100000 in
theorem C_M_checkpoint (l : Launch) (D : va_G) (ca : Nat → Nat) (ad : Nat → Nat) (S : mI) (I0 : mI) (J0 : mJ) (a1 : Int32) (a2 : Int32)  (hp : pY2 S I0 J0 a1 a2) : Met l yM_checkpoint wM_checkpoint ({ frames := 1, cells := 0, slots := 0, locals := 22 } : Room) (va_Pc [.ref (ad 0), .int a1, .int a2] (mPre D vwCl (xty ca) 23 ad (ymk ca ad) nL I0 J0)) (mQi D vwCl 23 ad (ymk ca ad) (fun r I' J' => r = fM_checkpoint S I0 J0 a1 a2 ∧ I' = I0 ∧ J' = J0)) 0 0 (mA 23 ad) := by
  refine Met.ofW (cc := cM_checkpoint) (maxL := 4) (ret := (some .int)) (by decide) rfl ?_
  intro p e s m args below meth c s₁ B hml hv
  obtain ⟨rfl, hP, hK, hD0, hN⟩ := hv
  have hx := B.exec
  have hb := B.bytes
  have hr := B.returns
  have htb : ∀ w ∈ wb, w.before _ s = true := fun w h => atoms_spec (ws := wM_checkpoint) B.pre w (List.mem_cons_of_mem _ h)
  have hown : s.vm.findClass RM = some m.cls := findClass_of_methodNamed B.named
  have hlk := B.notSynchronized
  have hD := mw_Dm hD0
  have hS : va_S (mA 23 ad) s.heap s.heap [] := va_S.rf
  have hl := lv_entry ([.ref (ad 0), .int a1, .int a2]) (n := 4) (Nat.le_of_ble_eq_true rfl)
  rw [lg_entry_eq]
  generalize (lg_sl ([.ref (ad 0), .int a1, .int a2]) ++ List.replicate (4 - (lg_sl ([.ref (ad 0), .int a1, .int a2])).length) Slot.unset).toArray = ls at hl ⊢
  have hl : lv_has ls 4 [(0, .ref (ad 0)), (1, .int a1), (2, .int a2)] := hl
  have h := P_M_checkpoint S I0 J0 a1 a2  hp  (fun r I' J' => r = fM_checkpoint S I0 J0 a1 a2 ∧ I' = I0 ∧ J' = J0)  ⟨rfl, rfl, rfl⟩
  unfold wp_M_checkpoint at h
  refine lv_iload_n hx hb dM_checkpoint_0 rfl (lv_at hl 1 rfl) ?_
  refine mc_r (va_runS (As := [.int a1]) (rest := []) ⟨hx, hb, hml, hown, htb⟩ (C_M_isNode l D ca ad I0 J0 a1) (va_cwS 1 htb (gd_s k3_135 k3_136 k1_8 k3_137) rfl rfl rfl (by decide +kernel) ⟨Nat.le_of_ble_eq_true rfl, Nat.le_of_ble_eq_true rfl⟩) (mPre_S hK hP hD hN) rfl rfl hl.1 rfl (lv_room (Nat.le_of_ble_eq_true rfl)) dM_checkpoint_1 ⟨Nat.le_of_ble_eq_true rfl, Nat.le_of_ble_eq_true rfl⟩) hS (fun H locs hP hS => ?_)
  refine lv_if_eq (tgt := 16) hx hb dM_checkpoint_4 (by decide) (fun hc => ?_) (fun hc => ?_)
  · have h := h.1 hc
    refine lv_iconst (v := (-1)) hx hb dM_checkpoint_16 (by decide) ?_
    exact me_i hx hb hr hlk hP hS h dM_checkpoint_17
  · have h := h.2 hc
    refine lv_iload_n hx hb dM_checkpoint_7 rfl (lv_at hl 2 rfl) ?_
    refine lv_iconst (v := 0) hx hb dM_checkpoint_8 (by decide) ?_
    refine lv_iconst (v := 3) hx hb dM_checkpoint_9 (by decide) ?_
    refine mc_r (va_runS (As := [.int a2, .int 0, .int 3]) (rest := []) ⟨hx, hb, hml, hown, htb⟩ (C_M_outside l D ca ad I0 J0 a2 0 3) (va_cwS 3 htb (gd_s k3_44 k3_45 k1_8 k3_46) rfl rfl rfl (by decide +kernel) ⟨Nat.le_of_ble_eq_true rfl, Nat.le_of_ble_eq_true rfl⟩) (mPre_S hK hP hD hN) rfl rfl hl.1 rfl (lv_room (Nat.le_of_ble_eq_true rfl)) dM_checkpoint_10 ⟨Nat.le_of_ble_eq_true rfl, Nat.le_of_ble_eq_true rfl⟩) hS (fun H locs hP hS => ?_)
    refine lv_if_eq (tgt := 18) hx hb dM_checkpoint_13 (by decide) (fun hc => ?_) (fun hc => ?_)
    · have h := h.1 hc
      refine lv_iconst (v := 2) hx hb dM_checkpoint_18 (by decide) ?_
      refine lv_iload_n hx hb dM_checkpoint_19 rfl (lv_at hl 1 rfl) ?_
      refine lv_imul hx hb dM_checkpoint_20 ?_
      refine lv_iload_n hx hb dM_checkpoint_21 rfl (lv_at hl 2 rfl) ?_
      refine lv_iconst (v := 2) hx hb dM_checkpoint_22 (by decide) ?_
      refine lv_idiv hx hb dM_checkpoint_23 (by decide) ?_
      refine lv_iadd hx hb dM_checkpoint_24 ?_
      refine lv_istore_n (lv' := [(3, .int ((2 * a1) + (a2 / 2))), (0, .ref (ad 0)), (1, .int a1), (2, .int a2)]) hx hb dM_checkpoint_25 rfl hl (by decide) rfl (fun ls hl => ?_)
      refine lv_iload_n hx hb dM_checkpoint_26 rfl (lv_at hl 3 rfl) ?_
      refine lv_iconst (v := 2) hx hb dM_checkpoint_27 (by decide) ?_
      refine lv_irem hx hb dM_checkpoint_28 (by decide) ?_
      refine lv_if_ne (tgt := 41) hx hb dM_checkpoint_29 (by decide) (fun hc => ?_) (fun hc => ?_)
      · have h := h.1 hc
        refine lv_aload_n hx hb dM_checkpoint_41 rfl (lv_at hl 1 rfl) ?_
        refine va_get (D := D) (ci := 6) (v := .ref (ad 17)) (C := RM) (T := TM) (N := 33) hx hb htb inM hown hK hP 0 (mw_at (by decide) (ym_0 _ _ _ _)) rfl 22 (by decide) (htb _ k2_194) (fun _ h9 => h9) rfl dM_checkpoint_42 ?_
        refine lv_iload_n hx hb dM_checkpoint_45 rfl (lv_at hl 0 rfl) ?_
        obtain ⟨hn3, h⟩ := h
        refine mr_iald hx hb hK hP 17 0 (by decide) rfl rfl hn3 dM_checkpoint_46 ?_
        exact me_i hx hb hr hlk hP hS h dM_checkpoint_47
      · have h := h.2 hc
        refine lv_aload_n hx hb dM_checkpoint_32 rfl (lv_at hl 1 rfl) ?_
        refine va_get (D := D) (ci := 6) (v := .ref (ad 16)) (C := RM) (T := TM) (N := 33) hx hb htb inM hown hK hP 0 (mw_at (by decide) (ym_0 _ _ _ _)) rfl 21 (by decide) (htb _ k2_193) (fun _ h9 => h9) rfl dM_checkpoint_33 ?_
        refine lv_iload_n hx hb dM_checkpoint_36 rfl (lv_at hl 0 rfl) ?_
        obtain ⟨hn4, h⟩ := h
        refine mr_iald hx hb hK hP 16 0 (by decide) rfl rfl hn4 dM_checkpoint_37 ?_
        refine lv_goto (tgt := 47) hx hb dM_checkpoint_38 (by decide) ?_
        exact me_i hx hb hr hlk hP hS h dM_checkpoint_47
    · have h := h.2 hc
      refine lv_iconst (v := (-1)) hx hb dM_checkpoint_16 (by decide) ?_
      exact me_i hx hb hr hlk hP hS h dM_checkpoint_17
def wp_M_conflict (R : Int32 → mI → mJ → Prop) (I0 : mI) (J0 : mJ) (a1 : Int32) (a2 : Int32) : Prop :=
  (((fM_isNode I0 J0 a1) = 0 → R 0 I0 J0) ∧ (¬ ((fM_isNode I0 J0 a1) = 0) → ((¬ ((fM_isNode I0 J0 a2) = 0) → (vp_in ((2 * a1) + 1) 6 ∧ (vp_in ((2 * a2) + 1) 6 ∧ (∃ (S5 : mI), (pM_descends S5 I0 J0 (I0 17 ((2 * a1) + 1).toNatClampNeg) (I0 17 ((2 * a2) + 1).toNatClampNeg) ∧ ((¬ ((fM_descends S5 I0 J0 (I0 17 ((2 * a1) + 1).toNatClampNeg) (I0 17 ((2 * a2) + 1).toNatClampNeg)) = 0) → R 0 I0 J0) ∧ ((fM_descends S5 I0 J0 (I0 17 ((2 * a1) + 1).toNatClampNeg) (I0 17 ((2 * a2) + 1).toNatClampNeg)) = 0 → (∃ (S7 : mI), (pM_descends S7 I0 J0 (I0 17 ((2 * a2) + 1).toNatClampNeg) (I0 17 ((2 * a1) + 1).toNatClampNeg) ∧ ((¬ ((fM_descends S7 I0 J0 (I0 17 ((2 * a2) + 1).toNatClampNeg) (I0 17 ((2 * a1) + 1).toNatClampNeg)) = 0) → R 0 I0 J0) ∧ ((fM_descends S7 I0 J0 (I0 17 ((2 * a2) + 1).toNatClampNeg) (I0 17 ((2 * a1) + 1).toNatClampNeg)) = 0 → R 1 I0 J0))))))))))) ∧ ((fM_isNode I0 J0 a2) = 0 → R 0 I0 J0))))
theorem P_M_conflict (S : mI) (I0 : mI) (J0 : mJ) (a1 : Int32) (a2 : Int32)  (hp : pY2 S I0 J0 a1 a2)  (R : Int32 → mI → mJ → Prop)  (hR : R (fM_conflict S I0 J0 a1 a2) I0 J0) : wp_M_conflict R I0 J0 a1 a2 := by
  have hY : YR S I0 := hp
  have hb := hY.1.b
  unfold fM_conflict rCon at hR
  unfold wp_M_conflict
  refine ⟨fun h => ?_, fun h => ⟨fun h2 => ?_, fun h2 => ?_⟩⟩
  · rw [if_pos (Or.inl (isNm.mp h))] at hR
    exact hR
  · have h1 : iNd a1 := nn (fun q => h (isNm.mpr q))
    have h3 : iNd a2 := nn (fun q => h2 (isNm.mpr q))
    rw [if_neg (fun q => q.elim (fun z => z h1) (fun z => z h3))] at hR
    obtain ⟨n, hn, rfl⟩ := iNd_n h1
    obtain ⟨v, hv, rfl⟩ := iNd_n h3
    rw [cN_nI (by omega), cN_nI (by omega)] at hR
    have hN := hY.1.n hn (k := 1) (by omega)
    have hM := hY.1.n hv (k := 1) (by omega)
    rw [ix21, ix21, ic (n := 2 * n + 1) (by omega), ic (n := 2 * v + 1) (by omega), hY.r (j := 17) (by omega) (by omega), hN.2.2.1, hM.2.2.1]
    unfold fM_descends
    rw [cN_nI (n := zNb S (2 * n + 1)) (by omega), cN_nI (n := zNb S (2 * v + 1)) (by omega)]
    refine ⟨iin (by omega) (by omega), iin (by omega) (by omega), S, ⟨hY, ⟨_, hN.2.2.2, rfl⟩, ⟨_, by omega, rfl⟩⟩, fun h => ?_, fun h => ⟨S, ⟨hY, ⟨_, hM.2.2.2, rfl⟩, ⟨_, by omega, rfl⟩⟩, fun h2 => ?_, fun h2 => ?_⟩⟩
    · rw [bz_n0.mp h] at hR
      exact hR
    · rw [bz_n0.mp h2] at hR
      simp at hR
      exact hR
    · rw [bz_0.mp h, bz_0.mp h2] at hR
      exact hR
  · rw [if_pos (Or.inr (isNm.mp h2))] at hR
    exact hR
set_option maxHeartbeats 4000000 in
set_option maxRecDepth 100000 in
theorem C_M_conflict (l : Launch) (D : va_G) (ca : Nat → Nat) (ad : Nat → Nat) (S : mI) (I0 : mI) (J0 : mJ) (a1 : Int32) (a2 : Int32)  (hp : pY2 S I0 J0 a1 a2) : Met l yM_conflict wM_conflict ({ frames := 1, cells := 0, slots := 0, locals := 23 } : Room) (va_Pc [.ref (ad 0), .int a1, .int a2] (mPre D vwCl (xty ca) 23 ad (ymk ca ad) nL I0 J0)) (mQi D vwCl 23 ad (ymk ca ad) (fun r I' J' => r = fM_conflict S I0 J0 a1 a2 ∧ I' = I0 ∧ J' = J0)) 0 0 (mA 23 ad) := by
  refine Met.ofW (cc := cM_conflict) (maxL := 5) (ret := (some .boolean)) (by decide) rfl ?_
  intro p e s m args below meth c s₁ B hml hv
  obtain ⟨rfl, hP, hK, hD0, hN⟩ := hv
  have hx := B.exec
  have hb := B.bytes
  have hr := B.returns
  have htb : ∀ w ∈ wb, w.before _ s = true := fun w h => atoms_spec (ws := wM_conflict) B.pre w (List.mem_cons_of_mem _ h)
  have hown : s.vm.findClass RM = some m.cls := findClass_of_methodNamed B.named
  have hlk := B.notSynchronized
  have hD := mw_Dm hD0
  have hS : va_S (mA 23 ad) s.heap s.heap [] := va_S.rf
  have hl := lv_entry ([.ref (ad 0), .int a1, .int a2]) (n := 5) (Nat.le_of_ble_eq_true rfl)
  rw [lg_entry_eq]
  generalize (lg_sl ([.ref (ad 0), .int a1, .int a2]) ++ List.replicate (5 - (lg_sl ([.ref (ad 0), .int a1, .int a2])).length) Slot.unset).toArray = ls at hl ⊢
  have hl : lv_has ls 5 [(0, .ref (ad 0)), (1, .int a1), (2, .int a2)] := hl
  have h := P_M_conflict S I0 J0 a1 a2  hp  (fun r I' J' => r = fM_conflict S I0 J0 a1 a2 ∧ I' = I0 ∧ J' = J0)  ⟨rfl, rfl, rfl⟩
  unfold wp_M_conflict at h
  refine lv_iload_n hx hb dM_conflict_0 rfl (lv_at hl 1 rfl) ?_
  refine mc_r (va_runS (As := [.int a1]) (rest := []) ⟨hx, hb, hml, hown, htb⟩ (C_M_isNode l D ca ad I0 J0 a1) (va_cwS 1 htb (gd_s k3_135 k3_136 k1_8 k3_137) rfl rfl rfl (by decide +kernel) ⟨Nat.le_of_ble_eq_true rfl, Nat.le_of_ble_eq_true rfl⟩) (mPre_S hK hP hD hN) rfl rfl hl.1 rfl (lv_room (Nat.le_of_ble_eq_true rfl)) dM_conflict_1 ⟨Nat.le_of_ble_eq_true rfl, Nat.le_of_ble_eq_true rfl⟩) hS (fun H locs hP hS => ?_)
  refine lv_if_eq (tgt := 14) hx hb dM_conflict_4 (by decide) (fun hc => ?_) (fun hc => ?_)
  · have h := h.1 hc
    refine lv_iconst (v := 0) hx hb dM_conflict_14 (by decide) ?_
    exact me_z hx hb hr hlk hP hS rfl h dM_conflict_15
  · have h := h.2 hc
    refine lv_iload_n hx hb dM_conflict_7 rfl (lv_at hl 2 rfl) ?_
    refine mc_r (va_runS (As := [.int a2]) (rest := []) ⟨hx, hb, hml, hown, htb⟩ (C_M_isNode l D ca ad I0 J0 a2) (va_cwS 1 htb (gd_s k3_135 k3_136 k1_8 k3_137) rfl rfl rfl (by decide +kernel) ⟨Nat.le_of_ble_eq_true rfl, Nat.le_of_ble_eq_true rfl⟩) (mPre_S hK hP hD hN) rfl rfl hl.1 rfl (lv_room (Nat.le_of_ble_eq_true rfl)) dM_conflict_8 ⟨Nat.le_of_ble_eq_true rfl, Nat.le_of_ble_eq_true rfl⟩) hS (fun H locs hP hS => ?_)
    refine lv_if_ne (tgt := 16) hx hb dM_conflict_11 (by decide) (fun hc => ?_) (fun hc => ?_)
    · have h := h.1 hc
      refine lv_aload_n hx hb dM_conflict_16 rfl (lv_at hl 0 rfl) ?_
      refine va_get (D := D) (ci := 6) (v := .ref (ad 17)) (C := RM) (T := TM) (N := 33) hx hb htb inM hown hK hP 0 (mw_at (by decide) (ym_0 _ _ _ _)) rfl 22 (by decide) (htb _ k2_194) (fun _ h9 => h9) rfl dM_conflict_17 ?_
      refine lv_iconst (v := 2) hx hb dM_conflict_20 (by decide) ?_
      refine lv_iload_n hx hb dM_conflict_21 rfl (lv_at hl 1 rfl) ?_
      refine lv_imul hx hb dM_conflict_22 ?_
      refine lv_iconst (v := 1) hx hb dM_conflict_23 (by decide) ?_
      refine lv_iadd hx hb dM_conflict_24 ?_
      obtain ⟨hn3, h⟩ := h
      refine mr_iald hx hb hK hP 17 0 (by decide) rfl rfl hn3 dM_conflict_25 ?_
      refine lv_istore_n (lv' := [(3, .int (I0 17 ((2 * a1) + 1).toNatClampNeg)), (0, .ref (ad 0)), (1, .int a1), (2, .int a2)]) hx hb dM_conflict_26 rfl hl (by decide) rfl (fun ls hl => ?_)
      refine lv_aload_n hx hb dM_conflict_27 rfl (lv_at hl 1 rfl) ?_
      refine va_get (D := D) (ci := 6) (v := .ref (ad 17)) (C := RM) (T := TM) (N := 33) hx hb htb inM hown hK hP 0 (mw_at (by decide) (ym_0 _ _ _ _)) rfl 22 (by decide) (htb _ k2_194) (fun _ h9 => h9) rfl dM_conflict_28 ?_
      refine lv_iconst (v := 2) hx hb dM_conflict_31 (by decide) ?_
      refine lv_iload_n hx hb dM_conflict_32 rfl (lv_at hl 3 rfl) ?_
      refine lv_imul hx hb dM_conflict_33 ?_
      refine lv_iconst (v := 1) hx hb dM_conflict_34 (by decide) ?_
      refine lv_iadd hx hb dM_conflict_35 ?_
      obtain ⟨hn4, h⟩ := h
      refine mr_iald hx hb hK hP 17 0 (by decide) rfl rfl hn4 dM_conflict_36 ?_
      refine lv_istore (lv' := [(4, .int (I0 17 ((2 * a2) + 1).toNatClampNeg)), (3, .int (I0 17 ((2 * a1) + 1).toNatClampNeg)), (0, .ref (ad 0)), (1, .int a1), (2, .int a2)]) hx hb dM_conflict_37 hl (by decide) rfl (fun ls hl => ?_)
      refine lv_aload_n hx hb dM_conflict_39 rfl (lv_at hl 2 rfl) ?_
      refine lv_iload_n hx hb dM_conflict_40 rfl (lv_at hl 1 rfl) ?_
      refine lv_iload hx hb dM_conflict_41 (lv_at hl 0 rfl) ?_
      obtain ⟨S5, h⟩ := h
      obtain ⟨hp6, h⟩ := h
      refine mc_r (va_runV (As := [.int (I0 17 ((2 * a1) + 1).toNatClampNeg), .int (I0 17 ((2 * a2) + 1).toNatClampNeg)]) (rest := []) ⟨hx, hb, hml, hown, htb⟩ (C_M_descends l D ca ad S5 I0 J0 (I0 17 ((2 * a1) + 1).toNatClampNeg) (I0 17 ((2 * a2) + 1).toNatClampNeg) hp6) (cwV 2 htb (gd_v k3_142 k3_144 ks34 k1_8 k3_145) rfl rfl rfl (by decide +kernel) ⟨Nat.le_of_ble_eq_true rfl, Nat.le_of_ble_eq_true rfl⟩) (mPre_V hK hP hD hN rfl (mw_at (by decide) (ym_0 _ _ _ _))) rfl rfl hl.1 rfl (lv_room (Nat.le_of_ble_eq_true rfl)) dM_conflict_43 ⟨Nat.le_of_ble_eq_true rfl, Nat.le_of_ble_eq_true rfl⟩) hS (fun H locs hP hS => ?_)
      refine lv_if_ne (tgt := 63) hx hb dM_conflict_46 (by decide) (fun hc => ?_) (fun hc => ?_)
      · have h := h.1 hc
        refine lv_iconst (v := 0) hx hb dM_conflict_63 (by decide) ?_
        exact me_z hx hb hr hlk hP hS rfl h dM_conflict_64
      · have h := h.2 hc
        refine lv_aload_n hx hb dM_conflict_49 rfl (lv_at hl 2 rfl) ?_
        refine lv_iload hx hb dM_conflict_50 (lv_at hl 0 rfl) ?_
        refine lv_iload_n hx hb dM_conflict_52 rfl (lv_at hl 1 rfl) ?_
        obtain ⟨S7, h⟩ := h
        obtain ⟨hp8, h⟩ := h
        refine mc_r (va_runV (As := [.int (I0 17 ((2 * a2) + 1).toNatClampNeg), .int (I0 17 ((2 * a1) + 1).toNatClampNeg)]) (rest := []) ⟨hx, hb, hml, hown, htb⟩ (C_M_descends l D ca ad S7 I0 J0 (I0 17 ((2 * a2) + 1).toNatClampNeg) (I0 17 ((2 * a1) + 1).toNatClampNeg) hp8) (cwV 2 htb (gd_v k3_142 k3_144 ks34 k1_8 k3_145) rfl rfl rfl (by decide +kernel) ⟨Nat.le_of_ble_eq_true rfl, Nat.le_of_ble_eq_true rfl⟩) (mPre_V hK hP hD hN rfl (mw_at (by decide) (ym_0 _ _ _ _))) rfl rfl hl.1 rfl (lv_room (Nat.le_of_ble_eq_true rfl)) dM_conflict_53 ⟨Nat.le_of_ble_eq_true rfl, Nat.le_of_ble_eq_true rfl⟩) hS (fun H locs hP hS => ?_)
        refine lv_if_ne (tgt := 63) hx hb dM_conflict_56 (by decide) (fun hc => ?_) (fun hc => ?_)
        · have h := h.1 hc
          refine lv_iconst (v := 0) hx hb dM_conflict_63 (by decide) ?_
          exact me_z hx hb hr hlk hP hS rfl h dM_conflict_64
        · have h := h.2 hc
          refine lv_iconst (v := 1) hx hb dM_conflict_59 (by decide) ?_
          refine lv_goto (tgt := 64) hx hb dM_conflict_60 (by decide) ?_
          exact me_z hx hb hr hlk hP hS rfl h dM_conflict_64
    · have h := h.2 hc
      refine lv_iconst (v := 0) hx hb dM_conflict_14 (by decide) ?_
      exact me_z hx hb hr hlk hP hS rfl h dM_conflict_15
def wp_M_isHeard_5 (K5 : mI → mJ → Int32 → Int32 → Prop) (R : Int32 → mI → mJ → Prop) (I : mI) (J : mJ) (a1 : Int32) (a2 : Int32) (x3 : Int32) (x4 : Int32) : Prop :=
  ((3 ≤ x4 → (narrow .boolean (.int x3) = .int x3 ∧ R x3 I J)) ∧ (¬ (3 ≤ x4) → ((¬ (x3 = 0) → K5 I J 1 (x4 + 1)) ∧ (x3 = 0 → ((¬ (((a1 >>> (x4 &&& 31)) &&& 1) = 1) → K5 I J 0 (x4 + 1)) ∧ (((a1 >>> (x4 &&& 31)) &&& 1) = 1 → (vp_in ((80 * x4) + a2) 240 ∧ (((I 15 ((80 * x4) + a2).toNatClampNeg) = 0 → K5 I J 0 (x4 + 1)) ∧ (¬ ((I 15 ((80 * x4) + a2).toNatClampNeg) = 0) → K5 I J 1 (x4 + 1))))))))))
def wp_M_isHeard (K5 : mI → mJ → Int32 → Int32 → Prop) (R : Int32 → mI → mJ → Prop) (I0 : mI) (J0 : mJ) (a1 : Int32) (a2 : Int32) : Prop :=
  K5 I0 J0 0 0
theorem P_M_isHeard (S : mI) (I0 : mI) (J0 : mJ) (a1 : Int32) (a2 : Int32)  (hp : pM_isHeard S I0 J0 a1 a2) (K5 : mI → mJ → Int32 → Int32 → Prop) (R : Int32 → mI → mJ → Prop) (c5 : ∀ (I : mI) (J : mJ) (x3 : Int32) (x4 : Int32), wp_M_isHeard_5 K5 R I J a1 a2 x3 x4 → K5 I J x3 x4) (hR : R (fM_isHeard S I0 J0 a1 a2) I0 J0) : wp_M_isHeard K5 R I0 J0 a1 a2 := by
  obtain ⟨hY, ⟨i, hi, rfl⟩⟩ := hp
  have hb := hY.1.b
  unfold fM_isHeard zAny at hR
  rw [cN_nI (by omega)] at hR
  have k3 : ∀ b, R (bz b) I0 J0 → K5 I0 J0 (bz b) (nI 3) := fun b h => by
    apply c5
    unfold wp_M_isHeard_5
    exact ⟨fun _ => ⟨by cases b <;> rfl, h⟩, fun z => absurd (nI_le (a := 3) (b := 3) (Nat.le_refl _) (by omega)) z⟩
  have st : ∀ t b, t < 3 → K5 I0 J0 (bz (b || (bt a1 t && zHr S t i))) (nI (t + 1)) → K5 I0 J0 (bz b) (nI t) := fun t b ht h => by
    apply c5
    unfold wp_M_isHeard_5
    rw [nI_1, bi_1 a1 (by omega), ix80, ic (by omega), hY.r (j := 15) (by omega) (by omega), hr_0]
    refine ⟨fun z => absurd z (nI_ge (b := 3) (by omega) (by omega)), fun _ => ⟨fun z => ?_, fun z => ⟨fun z2 => ?_, fun z2 => ⟨iin (by omega) (by omega), fun z3 => ?_, fun z3 => ?_⟩⟩⟩⟩
    · rw [bz_n0.mp z] at h; exact h
    · rw [bz_0.mp z, Bool.eq_false_iff.mpr z2] at h; exact h
    · rw [bz_0.mp z, z2, z3] at h; exact h
    · rw [bz_0.mp z, z2, nf z3] at h; exact h
  refine st 0 false (by omega) (st 1 _ (by omega) (st 2 _ (by omega) (k3 _ ?_)))
  rw [Bool.false_or, Bool.or_assoc]
  exact hR
set_option maxHeartbeats 4000000 in
set_option maxRecDepth 100000 in
theorem C_M_isHeard (l : Launch) (D : va_G) (ca : Nat → Nat) (ad : Nat → Nat) (S : mI) (I0 : mI) (J0 : mJ) (a1 : Int32) (a2 : Int32)  (hp : pM_isHeard S I0 J0 a1 a2) : Met l yM_isHeard wM_isHeard ({ frames := 0, cells := 0, slots := 0, locals := 0 } : Room) (va_Pc [.ref (ad 0), .int a1, .int a2] (mPre D vwCl (xty ca) 23 ad (ymk ca ad) nL I0 J0)) (mQi D vwCl 23 ad (ymk ca ad) (fun r I' J' => r = fM_isHeard S I0 J0 a1 a2 ∧ I' = I0 ∧ J' = J0)) 0 0 (mA 23 ad) := by
  refine Met.ofW (cc := cM_isHeard) (maxL := 5) (ret := (some .boolean)) (by decide) rfl ?_
  intro p e s m args below meth c s₁ B hml hv
  obtain ⟨rfl, hP, hK, hD0, hN⟩ := hv
  have hx := B.exec
  have hb := B.bytes
  have hr := B.returns
  have htb : ∀ w ∈ wb, w.before _ s = true := fun w h => atoms_spec (ws := wM_isHeard) B.pre w (List.mem_cons_of_mem _ h)
  have hown : s.vm.findClass RM = some m.cls := findClass_of_methodNamed B.named
  have hlk := B.notSynchronized
  have hD := mw_Dm hD0
  have hS : va_S (mA 23 ad) s.heap s.heap [] := va_S.rf
  have hl := lv_entry ([.ref (ad 0), .int a1, .int a2]) (n := 5) (Nat.le_of_ble_eq_true rfl)
  rw [lg_entry_eq]
  generalize (lg_sl ([.ref (ad 0), .int a1, .int a2]) ++ List.replicate (5 - (lg_sl ([.ref (ad 0), .int a1, .int a2])).length) Slot.unset).toArray = ls at hl ⊢
  have hl : lv_has ls 5 [(0, .ref (ad 0)), (1, .int a1), (2, .int a2)] := hl
  obtain ⟨K5, hK5⟩ : ∃ K : mI → mJ → Int32 → Int32 → Prop, K = (fun I J x3 x4 => ∀ (H : Heap) (locs : List Loc) (ls : Array Slot), va_P D vwCl (mw 23 ad (ymk ca ad) I J) H → va_S (mA 23 ad) s.heap H locs → lv_has ls 5 [(0, .ref (ad 0)), (1, .int a1), (2, .int a2), (3, .int x3), (4, .int x4)] → W p l e (headSpec wM_isHeard ({ frames := 0, cells := 0, slots := 0, locals := 0 } : Room)).room s m (([.ref (ad 0), .int a1, .int a2] : List Value).toArray) below meth c H locs 0 0 (MQ below (mQi D vwCl 23 ad (ymk ca ad) (fun r I' J' => r = fM_isHeard S I0 J0 a1 a2 ∧ I' = I0 ∧ J' = J0)) (([.ref (ad 0), .int a1, .int a2] : List Value).toArray) s 0 0 (mA 23 ad)) (F0 m 5 ls [])) := ⟨_, rfl⟩
  have c5 : ∀ (I : mI) (J : mJ) (x3 : Int32) (x4 : Int32), wp_M_isHeard_5 K5 (fun r I' J' => r = fM_isHeard S I0 J0 a1 a2 ∧ I' = I0 ∧ J' = J0) I J a1 a2 x3 x4 → K5 I J x3 x4 := by
    intro I J x3 x4 h
    rw [hK5]
    intro H locs ls hP hS hl
    unfold wp_M_isHeard_5 at h
    refine lv_iload hx hb dM_isHeard_5 (lv_at hl 4 rfl) ?_
    refine lv_iconst (v := 3) hx hb dM_isHeard_7 (by decide) ?_
    refine lv_icmp_ge (tgt := 52) hx hb dM_isHeard_8 (by decide) (fun hc => ?_) (fun hc => ?_)
    · have h := h.1 hc
      refine lv_iload_n hx hb dM_isHeard_52 rfl (lv_at hl 3 rfl) ?_
      obtain ⟨hq1, h⟩ := h
      exact me_z hx hb hr hlk hP hS hq1 h dM_isHeard_53
    · have h := h.2 hc
      refine lv_iload_n hx hb dM_isHeard_11 rfl (lv_at hl 3 rfl) ?_
      refine lv_if_ne (tgt := 40) hx hb dM_isHeard_12 (by decide) (fun hc => ?_) (fun hc => ?_)
      · have h := h.1 hc
        refine lv_iconst (v := 1) hx hb dM_isHeard_40 (by decide) ?_
        refine lv_goto (tgt := 45) hx hb dM_isHeard_41 (by decide) ?_
        refine lv_istore_n (lv' := [(3, .int 1), (0, .ref (ad 0)), (1, .int a1), (2, .int a2), (4, .int x4)]) hx hb dM_isHeard_45 rfl hl (by decide) rfl (fun ls hl => ?_)
        refine lv_iinc (k := 4) (v := x4 + 1) (lv' := [(4, .int (x4 + 1)), (3, .int 1), (0, .ref (ad 0)), (1, .int a1), (2, .int a2)]) hx hb dM_isHeard_46 hl rfl (by rfl) (by decide) rfl (fun ls hl => ?_)
        refine lv_goto (tgt := 5) hx hb dM_isHeard_49 (by decide) ?_
        rw [hK5] at h
        exact h _ _ _ hP hS (lv_sub hl [2, 3, 4, 1, 0] rfl)
      · have h := h.2 hc
        refine lv_iload_n hx hb dM_isHeard_15 rfl (lv_at hl 1 rfl) ?_
        refine lv_iload hx hb dM_isHeard_16 (lv_at hl 4 rfl) ?_
        refine lv_ishr hx hb dM_isHeard_18 ?_
        refine lv_iconst (v := 1) hx hb dM_isHeard_19 (by decide) ?_
        refine lv_iand hx hb dM_isHeard_20 ?_
        refine lv_iconst (v := 1) hx hb dM_isHeard_21 (by decide) ?_
        refine lv_icmp_ne (tgt := 44) hx hb dM_isHeard_22 (by decide) (fun hc => ?_) (fun hc => ?_)
        · have h := h.1 hc
          refine lv_iconst (v := 0) hx hb dM_isHeard_44 (by decide) ?_
          refine lv_istore_n (lv' := [(3, .int 0), (0, .ref (ad 0)), (1, .int a1), (2, .int a2), (4, .int x4)]) hx hb dM_isHeard_45 rfl hl (by decide) rfl (fun ls hl => ?_)
          refine lv_iinc (k := 4) (v := x4 + 1) (lv' := [(4, .int (x4 + 1)), (3, .int 0), (0, .ref (ad 0)), (1, .int a1), (2, .int a2)]) hx hb dM_isHeard_46 hl rfl (by rfl) (by decide) rfl (fun ls hl => ?_)
          refine lv_goto (tgt := 5) hx hb dM_isHeard_49 (by decide) ?_
          rw [hK5] at h
          exact h _ _ _ hP hS (lv_sub hl [2, 3, 4, 1, 0] rfl)
        · have h := h.2 hc
          refine lv_aload_n hx hb dM_isHeard_25 rfl (lv_at hl 0 rfl) ?_
          refine va_get (D := D) (ci := 6) (v := .ref (ad 15)) (C := RM) (T := TM) (N := 33) hx hb htb inM hown hK hP 0 (mw_at (by decide) (ym_0 _ _ _ _)) rfl 20 (by decide) (htb _ k2_192) (fun _ h9 => h9) rfl dM_isHeard_26 ?_
          refine lv_bipush (v := 80) hx hb dM_isHeard_29 (by decide) ?_
          refine lv_iload hx hb dM_isHeard_31 (lv_at hl 4 rfl) ?_
          refine lv_imul hx hb dM_isHeard_33 ?_
          refine lv_iload_n hx hb dM_isHeard_34 rfl (lv_at hl 2 rfl) ?_
          refine lv_iadd hx hb dM_isHeard_35 ?_
          obtain ⟨hn2, h⟩ := h
          refine mr_zald hx hb hK hP 15 1 (by decide) rfl rfl hn2 dM_isHeard_36 ?_
          refine lv_if_eq (tgt := 44) hx hb dM_isHeard_37 (by decide) (fun hc => ?_) (fun hc => ?_)
          · have h := h.1 hc
            refine lv_iconst (v := 0) hx hb dM_isHeard_44 (by decide) ?_
            refine lv_istore_n (lv' := [(3, .int 0), (0, .ref (ad 0)), (1, .int a1), (2, .int a2), (4, .int x4)]) hx hb dM_isHeard_45 rfl hl (by decide) rfl (fun ls hl => ?_)
            refine lv_iinc (k := 4) (v := x4 + 1) (lv' := [(4, .int (x4 + 1)), (3, .int 0), (0, .ref (ad 0)), (1, .int a1), (2, .int a2)]) hx hb dM_isHeard_46 hl rfl (by rfl) (by decide) rfl (fun ls hl => ?_)
            refine lv_goto (tgt := 5) hx hb dM_isHeard_49 (by decide) ?_
            rw [hK5] at h
            exact h _ _ _ hP hS (lv_sub hl [2, 3, 4, 1, 0] rfl)
          · have h := h.2 hc
            refine lv_iconst (v := 1) hx hb dM_isHeard_40 (by decide) ?_
            refine lv_goto (tgt := 45) hx hb dM_isHeard_41 (by decide) ?_
            refine lv_istore_n (lv' := [(3, .int 1), (0, .ref (ad 0)), (1, .int a1), (2, .int a2), (4, .int x4)]) hx hb dM_isHeard_45 rfl hl (by decide) rfl (fun ls hl => ?_)
            refine lv_iinc (k := 4) (v := x4 + 1) (lv' := [(4, .int (x4 + 1)), (3, .int 1), (0, .ref (ad 0)), (1, .int a1), (2, .int a2)]) hx hb dM_isHeard_46 hl rfl (by rfl) (by decide) rfl (fun ls hl => ?_)
            refine lv_goto (tgt := 5) hx hb dM_isHeard_49 (by decide) ?_
            rw [hK5] at h
            exact h _ _ _ hP hS (lv_sub hl [2, 3, 4, 1, 0] rfl)
  have h := P_M_isHeard S I0 J0 a1 a2  hp K5 (fun r I' J' => r = fM_isHeard S I0 J0 a1 a2 ∧ I' = I0 ∧ J' = J0) c5 ⟨rfl, rfl, rfl⟩
  unfold wp_M_isHeard at h
  refine lv_iconst (v := 0) hx hb dM_isHeard_0 (by decide) ?_
  refine lv_istore_n (lv' := [(3, .int 0), (0, .ref (ad 0)), (1, .int a1), (2, .int a2)]) hx hb dM_isHeard_1 rfl hl (by decide) rfl (fun ls hl => ?_)
  refine lv_iconst (v := 0) hx hb dM_isHeard_2 (by decide) ?_
  refine lv_istore (lv' := [(4, .int 0), (3, .int 0), (0, .ref (ad 0)), (1, .int a1), (2, .int a2)]) hx hb dM_isHeard_3 hl (by decide) rfl (fun ls hl => ?_)
  rw [hK5] at h
  exact h _ _ _ hP hS (lv_sub hl [2, 3, 4, 1, 0] rfl)
def wp_M_pair_3 (K3 : mI → mJ → Int32 → Prop) (K18 : mI → mJ → Int32 → Int32 → Prop) (R : Int32 → mI → mJ → Prop) (I : mI) (J : mJ) (a1 : Int32) (a2 : Int32) (a3 : Int32) (x4 : Int32) : Prop :=
  (((I 0 11) ≤ x4 → R (-1) I J) ∧ (¬ ((I 0 11) ≤ x4) → K18 I J x4 (x4 + 1)))
def wp_M_pair_18 (K3 : mI → mJ → Int32 → Prop) (K18 : mI → mJ → Int32 → Int32 → Prop) (R : Int32 → mI → mJ → Prop) (I : mI) (J : mJ) (a1 : Int32) (a2 : Int32) (a3 : Int32) (x4 : Int32) (x5 : Int32) : Prop :=
  (((I 0 11) ≤ x5 → K3 I J (x4 + 1)) ∧ (¬ ((I 0 11) ≤ x5) → (vp_in x4 80 ∧ ((¬ ((I 7 x4.toNatClampNeg) = a1) → K18 I J x4 (x5 + 1)) ∧ ((I 7 x4.toNatClampNeg) = a1 → (∃ (S2 : mI), (pM_clash S2 I J x4 x5 ∧ (((fM_clash S2 I J x4 x5) = 0 → K18 I J x4 (x5 + 1)) ∧ (¬ ((fM_clash S2 I J x4 x5) = 0) → ((¬ (a3 = 0) → R ((100 * x4) + x5) I J) ∧ (a3 = 0 → (∃ (S4 : mI), (pM_isHeard S4 I J a2 x4 ∧ (((fM_isHeard S4 I J a2 x4) = 0 → K18 I J x4 (x5 + 1)) ∧ (¬ ((fM_isHeard S4 I J a2 x4) = 0) → (∃ (S6 : mI), (pM_isHeard S6 I J a2 x5 ∧ (((fM_isHeard S6 I J a2 x5) = 0 → K18 I J x4 (x5 + 1)) ∧ (¬ ((fM_isHeard S6 I J a2 x5) = 0) → R ((100 * x4) + x5) I J)))))))))))))))))))
def wp_M_pair (K3 : mI → mJ → Int32 → Prop) (K18 : mI → mJ → Int32 → Int32 → Prop) (R : Int32 → mI → mJ → Prop) (I0 : mI) (J0 : mJ) (a1 : Int32) (a2 : Int32) (a3 : Int32) : Prop :=
  K3 I0 J0 0
theorem P_M_pair (S : mI) (I0 : mI) (J0 : mJ) (a1 : Int32) (a2 : Int32) (a3 : Int32)  (hp : pY3 S I0 J0 a1 a2 a3) (K3 : mI → mJ → Int32 → Prop) (K18 : mI → mJ → Int32 → Int32 → Prop) (R : Int32 → mI → mJ → Prop) (c3 : ∀ (I : mI) (J : mJ) (x4 : Int32), wp_M_pair_3 K3 K18 R I J a1 a2 a3 x4 → K3 I J x4) (c18 : ∀ (I : mI) (J : mJ) (x4 : Int32) (x5 : Int32), wp_M_pair_18 K3 K18 R I J a1 a2 a3 x4 x5 → K18 I J x4 x5) (hR : R (fM_pair S I0 J0 a1 a2 a3) I0 J0) : wp_M_pair K3 K18 R I0 J0 a1 a2 a3 := by
  have hY : YR S I0 := hp
  have hb := hY.1.b
  unfold fM_pair at hR
  generalize hqe : zQ S a1 a2 (!decide (a3 = 0)) = q at hR
  have inner : ∀ m n i, i < zVc S → n + m = zVc S → (∀ j, zFst (q i) m n = some j → R (nI (100 * i + j)) I0 J0) → (zFst (q i) m n = none → K3 I0 J0 (nI (i + 1))) → K18 I0 J0 (nI i) (nI n) := by
    intro m
    induction m with
    | zero =>
      intro n i hi hn h1 h2
      have hn : n = zVc S := by omega
      subst hn
      apply c18
      unfold wp_M_pair_18
      rw [hY.vc, nI_1]
      exact ⟨fun _ => h2 rfl, fun h => absurd (nI_le (Nat.le_refl _) (by omega)) h⟩
    | succ m ih =>
      intro n i hi hn h1 h2
      apply c18
      unfold wp_M_pair_18
      rw [hY.vc, nI_1 i, nI_1 n, ic (n := i) (by omega), hY.r (j := 7) (by omega) (by omega)]
      have hno : q i n = false → K18 I0 J0 (nI i) (nI (n + 1)) := fun z => ih (n + 1) i hi (by omega) (fun j hj => h1 j (by rw [fst_f z]; exact hj)) (fun hj => h2 (by rw [fst_f z]; exact hj))
      have hyes : q i n = true → R (100 * nI i + nI n) I0 J0 := fun z => by
        have := h1 n (fst_t z)
        rw [show (100 : Int32) = nI 100 from rfl, pk_mul, nI_add]
        exact this
      refine ⟨fun h => absurd h (nI_ge (by omega) (by omega)), fun _ => ⟨iin (by omega) (by omega), fun h7 => hno ?_, fun h7 => ⟨S, ⟨hY, ⟨i, hi, rfl⟩, ⟨n, by omega, rfl⟩⟩, ?_⟩⟩⟩
      · rw [← hqe]
        unfold zQ
        rw [decide_eq_false h7]; rfl
      have hq : q i n = (zCl S i n && (!decide (a3 = 0) || (zAny S a2 i && zAny S a2 n))) := by
        rw [← hqe]
        unfold zQ
        rw [decide_eq_true h7, Bool.true_and]
      unfold fM_clash
      rw [cN_nI (n := i) (by omega), cN_nI (n := n) (by omega)]
      refine ⟨fun h => hno ?_, fun h => ⟨fun h3 => hyes ?_, fun h3 => ⟨S, ⟨hY, ⟨i, by omega, rfl⟩⟩, ?_⟩⟩⟩
      · rw [hq, bz_0.mp h]; rfl
      · rw [hq, bz_n0.mp h, decide_eq_false h3]; rfl
      · unfold fM_isHeard
        rw [cN_nI (n := i) (by omega), cN_nI (n := n) (by omega)]
        refine ⟨fun h4 => hno ?_, fun h4 => ⟨S, ⟨hY, ⟨n, by omega, rfl⟩⟩, fun h5 => hno ?_, fun h5 => hyes ?_⟩⟩
        · rw [hq, bz_0.mp h4, decide_eq_true h3, Bool.false_and]
          simp
        · rw [hq, bz_0.mp h5, decide_eq_true h3, Bool.and_false]
          simp
        · rw [hq, bz_n0.mp h, bz_n0.mp h4, bz_n0.mp h5, decide_eq_true h3]; rfl
  have outer : ∀ m n, n + m = zVc S → R (oI (zPo q m n)) I0 J0 → K3 I0 J0 (nI n) := by
    intro m
    induction m with
    | zero =>
      intro n hn hr
      have hn : n = zVc S := by omega
      subst hn
      apply c3
      unfold wp_M_pair_3
      rw [hY.vc]
      exact ⟨fun _ => hr, fun h => absurd (nI_le (Nat.le_refl _) (by omega)) h⟩
    | succ m ih =>
      intro n hn hr
      apply c3
      unfold wp_M_pair_3
      rw [hY.vc, nI_1]
      refine ⟨fun h => absurd h (nI_ge (by omega) (by omega)), fun _ => inner m (n + 1) n (by omega) (by omega) (fun j hj => ?_) (fun hj => ih (n + 1) (by omega) ?_)⟩
      · simp only [zPo] at hr
        rw [hj] at hr
        exact hr
      · simp only [zPo] at hr
        rw [hj] at hr
        exact hr
  exact outer (zVc S) 0 (by omega) hR
set_option maxHeartbeats 4000000 in
set_option maxRecDepth 100000 in
theorem C_M_pair (l : Launch) (D : va_G) (ca : Nat → Nat) (ad : Nat → Nat) (S : mI) (I0 : mI) (J0 : mJ) (a1 : Int32) (a2 : Int32) (a3 : Int32)  (hp : pY3 S I0 J0 a1 a2 a3) : Met l yM_pair wM_pair ({ frames := 1, cells := 0, slots := 0, locals := 24 } : Room) (va_Pc [.ref (ad 0), .int a1, .int a2, .int a3] (mPre D vwCl (xty ca) 23 ad (ymk ca ad) nL I0 J0)) (mQi D vwCl 23 ad (ymk ca ad) (fun r I' J' => r = fM_pair S I0 J0 a1 a2 a3 ∧ I' = I0 ∧ J' = J0)) 0 0 (mA 23 ad) := by
  refine Met.ofW (cc := cM_pair) (maxL := 6) (ret := (some .int)) (by decide) rfl ?_
  intro p e s m args below meth c s₁ B hml hv
  obtain ⟨rfl, hP, hK, hD0, hN⟩ := hv
  have hx := B.exec
  have hb := B.bytes
  have hr := B.returns
  have htb : ∀ w ∈ wb, w.before _ s = true := fun w h => atoms_spec (ws := wM_pair) B.pre w (List.mem_cons_of_mem _ h)
  have hown : s.vm.findClass RM = some m.cls := findClass_of_methodNamed B.named
  have hlk := B.notSynchronized
  have hD := mw_Dm hD0
  have hS : va_S (mA 23 ad) s.heap s.heap [] := va_S.rf
  have hl := lv_entry ([.ref (ad 0), .int a1, .int a2, .int a3]) (n := 6) (Nat.le_of_ble_eq_true rfl)
  rw [lg_entry_eq]
  generalize (lg_sl ([.ref (ad 0), .int a1, .int a2, .int a3]) ++ List.replicate (6 - (lg_sl ([.ref (ad 0), .int a1, .int a2, .int a3])).length) Slot.unset).toArray = ls at hl ⊢
  have hl : lv_has ls 6 [(0, .ref (ad 0)), (1, .int a1), (2, .int a2), (3, .int a3)] := hl
  obtain ⟨K3, hK3⟩ : ∃ K : mI → mJ → Int32 → Prop, K = (fun I J x4 => ∀ (H : Heap) (locs : List Loc) (ls : Array Slot), va_P D vwCl (mw 23 ad (ymk ca ad) I J) H → va_S (mA 23 ad) s.heap H locs → lv_has ls 6 [(0, .ref (ad 0)), (1, .int a1), (2, .int a2), (3, .int a3), (4, .int x4)] → W p l e (headSpec wM_pair ({ frames := 1, cells := 0, slots := 0, locals := 24 } : Room)).room s m (([.ref (ad 0), .int a1, .int a2, .int a3] : List Value).toArray) below meth c H locs 0 0 (MQ below (mQi D vwCl 23 ad (ymk ca ad) (fun r I' J' => r = fM_pair S I0 J0 a1 a2 a3 ∧ I' = I0 ∧ J' = J0)) (([.ref (ad 0), .int a1, .int a2, .int a3] : List Value).toArray) s 0 0 (mA 23 ad)) (F0 m 3 ls [])) := ⟨_, rfl⟩
  obtain ⟨K18, hK18⟩ : ∃ K : mI → mJ → Int32 → Int32 → Prop, K = (fun I J x4 x5 => ∀ (H : Heap) (locs : List Loc) (ls : Array Slot), va_P D vwCl (mw 23 ad (ymk ca ad) I J) H → va_S (mA 23 ad) s.heap H locs → lv_has ls 6 [(0, .ref (ad 0)), (1, .int a1), (2, .int a2), (3, .int a3), (4, .int x4), (5, .int x5)] → W p l e (headSpec wM_pair ({ frames := 1, cells := 0, slots := 0, locals := 24 } : Room)).room s m (([.ref (ad 0), .int a1, .int a2, .int a3] : List Value).toArray) below meth c H locs 0 0 (MQ below (mQi D vwCl 23 ad (ymk ca ad) (fun r I' J' => r = fM_pair S I0 J0 a1 a2 a3 ∧ I' = I0 ∧ J' = J0)) (([.ref (ad 0), .int a1, .int a2, .int a3] : List Value).toArray) s 0 0 (mA 23 ad)) (F0 m 18 ls [])) := ⟨_, rfl⟩
  have c3 : ∀ (I : mI) (J : mJ) (x4 : Int32), wp_M_pair_3 K3 K18 (fun r I' J' => r = fM_pair S I0 J0 a1 a2 a3 ∧ I' = I0 ∧ J' = J0) I J a1 a2 a3 x4 → K3 I J x4 := by
    intro I J x4 h
    rw [hK3]
    intro H locs ls hP hS hl
    unfold wp_M_pair_3 at h
    refine lv_iload hx hb dM_pair_3 (lv_at hl 4 rfl) ?_
    refine lv_aload_n hx hb dM_pair_5 rfl (lv_at hl 0 rfl) ?_
    refine va_get (D := D) (ci := 6) (v := .int (I 0 11)) (C := RM) (T := TM) (N := 33) hx hb htb inM hown hK hP 0 (mw_at (by decide) (ym_0 _ _ _ _)) rfl 11 (by decide) (htb _ k2_183) (fun _ h9 => h9) rfl dM_pair_6 ?_
    refine lv_icmp_ge (tgt := 94) hx hb dM_pair_9 (by decide) (fun hc => ?_) (fun hc => ?_)
    · have h := h.1 hc
      refine lv_iconst (v := (-1)) hx hb dM_pair_94 (by decide) ?_
      exact me_i hx hb hr hlk hP hS h dM_pair_95
    · have h := h.2 hc
      refine lv_iload hx hb dM_pair_12 (lv_at hl 4 rfl) ?_
      refine lv_iconst (v := 1) hx hb dM_pair_14 (by decide) ?_
      refine lv_iadd hx hb dM_pair_15 ?_
      refine lv_istore (lv' := [(5, .int (x4 + 1)), (0, .ref (ad 0)), (1, .int a1), (2, .int a2), (3, .int a3), (4, .int x4)]) hx hb dM_pair_16 hl (by decide) rfl (fun ls hl => ?_)
      rw [hK18] at h
      exact h _ _ _ hP hS (lv_sub hl [1, 2, 3, 4, 5, 0] rfl)
  have c18 : ∀ (I : mI) (J : mJ) (x4 : Int32) (x5 : Int32), wp_M_pair_18 K3 K18 (fun r I' J' => r = fM_pair S I0 J0 a1 a2 a3 ∧ I' = I0 ∧ J' = J0) I J a1 a2 a3 x4 x5 → K18 I J x4 x5 := by
    intro I J x4 x5 h
    rw [hK18]
    intro H locs ls hP hS hl
    unfold wp_M_pair_18 at h
    refine lv_iload hx hb dM_pair_18 (lv_at hl 5 rfl) ?_
    refine lv_aload_n hx hb dM_pair_20 rfl (lv_at hl 0 rfl) ?_
    refine va_get (D := D) (ci := 6) (v := .int (I 0 11)) (C := RM) (T := TM) (N := 33) hx hb htb inM hown hK hP 0 (mw_at (by decide) (ym_0 _ _ _ _)) rfl 11 (by decide) (htb _ k2_183) (fun _ h9 => h9) rfl dM_pair_21 ?_
    refine lv_icmp_ge (tgt := 88) hx hb dM_pair_24 (by decide) (fun hc => ?_) (fun hc => ?_)
    · have h := h.1 hc
      refine lv_iinc (k := 4) (v := x4 + 1) (lv' := [(4, .int (x4 + 1)), (0, .ref (ad 0)), (1, .int a1), (2, .int a2), (3, .int a3), (5, .int x5)]) hx hb dM_pair_88 hl rfl (by rfl) (by decide) rfl (fun ls hl => ?_)
      refine lv_goto (tgt := 3) hx hb dM_pair_91 (by decide) ?_
      rw [hK3] at h
      exact h _ _ _ hP hS (lv_sub hl [1, 2, 3, 4, 0] rfl)
    · have h := h.2 hc
      refine lv_aload_n hx hb dM_pair_27 rfl (lv_at hl 0 rfl) ?_
      refine va_get (D := D) (ci := 6) (v := .ref (ad 7)) (C := RM) (T := TM) (N := 33) hx hb htb inM hown hK hP 0 (mw_at (by decide) (ym_0 _ _ _ _)) rfl 12 (by decide) (htb _ k2_184) (fun _ h9 => h9) rfl dM_pair_28 ?_
      refine lv_iload hx hb dM_pair_31 (lv_at hl 4 rfl) ?_
      obtain ⟨hn1, h⟩ := h
      refine mr_iald hx hb hK hP 7 0 (by decide) rfl rfl hn1 dM_pair_33 ?_
      refine lv_iload_n hx hb dM_pair_34 rfl (lv_at hl 1 rfl) ?_
      refine lv_icmp_ne (tgt := 82) hx hb dM_pair_35 (by decide) (fun hc => ?_) (fun hc => ?_)
      · have h := h.1 hc
        refine lv_iinc (k := 5) (v := x5 + 1) (lv' := [(5, .int (x5 + 1)), (0, .ref (ad 0)), (1, .int a1), (2, .int a2), (3, .int a3), (4, .int x4)]) hx hb dM_pair_82 hl rfl (by rfl) (by decide) rfl (fun ls hl => ?_)
        refine lv_goto (tgt := 18) hx hb dM_pair_85 (by decide) ?_
        rw [hK18] at h
        exact h _ _ _ hP hS (lv_sub hl [1, 2, 3, 4, 5, 0] rfl)
      · have h := h.2 hc
        refine lv_aload_n hx hb dM_pair_38 rfl (lv_at hl 0 rfl) ?_
        refine lv_iload hx hb dM_pair_39 (lv_at hl 4 rfl) ?_
        refine lv_iload hx hb dM_pair_41 (lv_at hl 5 rfl) ?_
        obtain ⟨S2, h⟩ := h
        obtain ⟨hp3, h⟩ := h
        refine mc_r (va_runV (As := [.int x4, .int x5]) (rest := []) ⟨hx, hb, hml, hown, htb⟩ (C_M_clash l D ca ad S2 I J x4 x5 hp3) (cwV 2 htb (gd_v k3_99 k3_101 ks32 k1_8 k3_102) rfl rfl rfl (by decide +kernel) ⟨Nat.le_of_ble_eq_true rfl, Nat.le_of_ble_eq_true rfl⟩) (mPre_V hK hP hD hN rfl (mw_at (by decide) (ym_0 _ _ _ _))) rfl rfl hl.1 rfl (lv_room (Nat.le_of_ble_eq_true rfl)) dM_pair_43 ⟨Nat.le_of_ble_eq_true rfl, Nat.le_of_ble_eq_true rfl⟩) hS (fun H locs hP hS => ?_)
        refine lv_if_eq (tgt := 82) hx hb dM_pair_46 (by decide) (fun hc => ?_) (fun hc => ?_)
        · have h := h.1 hc
          refine lv_iinc (k := 5) (v := x5 + 1) (lv' := [(5, .int (x5 + 1)), (0, .ref (ad 0)), (1, .int a1), (2, .int a2), (3, .int a3), (4, .int x4)]) hx hb dM_pair_82 hl rfl (by rfl) (by decide) rfl (fun ls hl => ?_)
          refine lv_goto (tgt := 18) hx hb dM_pair_85 (by decide) ?_
          rw [hK18] at h
          exact h _ _ _ hP hS (lv_sub hl [1, 2, 3, 4, 5, 0] rfl)
        · have h := h.2 hc
          refine lv_iload_n hx hb dM_pair_49 rfl (lv_at hl 3 rfl) ?_
          refine lv_if_ne (tgt := 73) hx hb dM_pair_50 (by decide) (fun hc => ?_) (fun hc => ?_)
          · have h := h.1 hc
            refine lv_bipush (v := 100) hx hb dM_pair_73 (by decide) ?_
            refine lv_iload hx hb dM_pair_75 (lv_at hl 4 rfl) ?_
            refine lv_imul hx hb dM_pair_77 ?_
            refine lv_iload hx hb dM_pair_78 (lv_at hl 5 rfl) ?_
            refine lv_iadd hx hb dM_pair_80 ?_
            exact me_i hx hb hr hlk hP hS h dM_pair_81
          · have h := h.2 hc
            refine lv_aload_n hx hb dM_pair_53 rfl (lv_at hl 0 rfl) ?_
            refine lv_iload_n hx hb dM_pair_54 rfl (lv_at hl 2 rfl) ?_
            refine lv_iload hx hb dM_pair_55 (lv_at hl 4 rfl) ?_
            obtain ⟨S4, h⟩ := h
            obtain ⟨hp5, h⟩ := h
            refine mc_r (va_runV (As := [.int a2, .int x4]) (rest := []) ⟨hx, hb, hml, hown, htb⟩ (C_M_isHeard l D ca ad S4 I J a2 x4 hp5) (cwV 2 htb (gd_v k3_182 k3_184 ks38 k1_8 k3_185) rfl rfl rfl (by decide +kernel) ⟨Nat.le_of_ble_eq_true rfl, Nat.le_of_ble_eq_true rfl⟩) (mPre_V hK hP hD hN rfl (mw_at (by decide) (ym_0 _ _ _ _))) rfl rfl hl.1 rfl (lv_room (Nat.le_of_ble_eq_true rfl)) dM_pair_57 ⟨Nat.le_of_ble_eq_true rfl, Nat.le_of_ble_eq_true rfl⟩) hS (fun H locs hP hS => ?_)
            refine lv_if_eq (tgt := 82) hx hb dM_pair_60 (by decide) (fun hc => ?_) (fun hc => ?_)
            · have h := h.1 hc
              refine lv_iinc (k := 5) (v := x5 + 1) (lv' := [(5, .int (x5 + 1)), (0, .ref (ad 0)), (1, .int a1), (2, .int a2), (3, .int a3), (4, .int x4)]) hx hb dM_pair_82 hl rfl (by rfl) (by decide) rfl (fun ls hl => ?_)
              refine lv_goto (tgt := 18) hx hb dM_pair_85 (by decide) ?_
              rw [hK18] at h
              exact h _ _ _ hP hS (lv_sub hl [1, 2, 3, 4, 5, 0] rfl)
            · have h := h.2 hc
              refine lv_aload_n hx hb dM_pair_63 rfl (lv_at hl 0 rfl) ?_
              refine lv_iload_n hx hb dM_pair_64 rfl (lv_at hl 2 rfl) ?_
              refine lv_iload hx hb dM_pair_65 (lv_at hl 5 rfl) ?_
              obtain ⟨S6, h⟩ := h
              obtain ⟨hp7, h⟩ := h
              refine mc_r (va_runV (As := [.int a2, .int x5]) (rest := []) ⟨hx, hb, hml, hown, htb⟩ (C_M_isHeard l D ca ad S6 I J a2 x5 hp7) (cwV 2 htb (gd_v k3_182 k3_184 ks38 k1_8 k3_185) rfl rfl rfl (by decide +kernel) ⟨Nat.le_of_ble_eq_true rfl, Nat.le_of_ble_eq_true rfl⟩) (mPre_V hK hP hD hN rfl (mw_at (by decide) (ym_0 _ _ _ _))) rfl rfl hl.1 rfl (lv_room (Nat.le_of_ble_eq_true rfl)) dM_pair_67 ⟨Nat.le_of_ble_eq_true rfl, Nat.le_of_ble_eq_true rfl⟩) hS (fun H locs hP hS => ?_)
              refine lv_if_eq (tgt := 82) hx hb dM_pair_70 (by decide) (fun hc => ?_) (fun hc => ?_)
              · have h := h.1 hc
                refine lv_iinc (k := 5) (v := x5 + 1) (lv' := [(5, .int (x5 + 1)), (0, .ref (ad 0)), (1, .int a1), (2, .int a2), (3, .int a3), (4, .int x4)]) hx hb dM_pair_82 hl rfl (by rfl) (by decide) rfl (fun ls hl => ?_)
                refine lv_goto (tgt := 18) hx hb dM_pair_85 (by decide) ?_
                rw [hK18] at h
                exact h _ _ _ hP hS (lv_sub hl [1, 2, 3, 4, 5, 0] rfl)
              · have h := h.2 hc
                refine lv_bipush (v := 100) hx hb dM_pair_73 (by decide) ?_
                refine lv_iload hx hb dM_pair_75 (lv_at hl 4 rfl) ?_
                refine lv_imul hx hb dM_pair_77 ?_
                refine lv_iload hx hb dM_pair_78 (lv_at hl 5 rfl) ?_
                refine lv_iadd hx hb dM_pair_80 ?_
                exact me_i hx hb hr hlk hP hS h dM_pair_81
  have h := P_M_pair S I0 J0 a1 a2 a3  hp K3 K18 (fun r I' J' => r = fM_pair S I0 J0 a1 a2 a3 ∧ I' = I0 ∧ J' = J0) c3 c18 ⟨rfl, rfl, rfl⟩
  unfold wp_M_pair at h
  refine lv_iconst (v := 0) hx hb dM_pair_0 (by decide) ?_
  refine lv_istore (lv' := [(4, .int 0), (0, .ref (ad 0)), (1, .int a1), (2, .int a2), (3, .int a3)]) hx hb dM_pair_1 hl (by decide) rfl (fun ls hl => ?_)
  rw [hK3] at h
  exact h _ _ _ hP hS (lv_sub hl [1, 2, 3, 4, 0] rfl)
def wp_M_guilty_5 (K5 : mI → mJ → Int32 → Int32 → Prop) (R : Int32 → mI → mJ → Prop) (I : mI) (J : mJ) (a1 : Int32) (a2 : Int32) (x3 : Int32) (x4 : Int32) : Prop :=
  (((I 0 0) ≤ x4 → R x3 I J) ∧ (¬ ((I 0 0) ≤ x4) → (∃ (S1 : mI), (pY3 S1 I J x4 a1 a2 ∧ (((fM_pair S1 I J x4 a1 a2) < 0 → K5 I J (x3 + 0) (x4 + 1)) ∧ (¬ ((fM_pair S1 I J x4 a1 a2) < 0) → (vp_in x4 7 ∧ K5 I J (x3 + (I 1 x4.toNatClampNeg)) (x4 + 1))))))))
def wp_M_guilty (K5 : mI → mJ → Int32 → Int32 → Prop) (R : Int32 → mI → mJ → Prop) (I0 : mI) (J0 : mJ) (a1 : Int32) (a2 : Int32) : Prop :=
  K5 I0 J0 0 0
theorem P_M_guilty (S : mI) (I0 : mI) (J0 : mJ) (a1 : Int32) (a2 : Int32)  (hp : pY2 S I0 J0 a1 a2) (K5 : mI → mJ → Int32 → Int32 → Prop) (R : Int32 → mI → mJ → Prop) (c5 : ∀ (I : mI) (J : mJ) (x3 : Int32) (x4 : Int32), wp_M_guilty_5 K5 R I J a1 a2 x3 x4 → K5 I J x3 x4) (hR : R (fM_guilty S I0 J0 a1 a2) I0 J0) : wp_M_guilty K5 R I0 J0 a1 a2 := by
  have hY : YR S I0 := hp
  have hb := hY.1.b
  unfold fM_guilty rGui at hR
  generalize hge : (fun v => (zPo (zQ S (nI v) a1 (!decide (a2 = 0))) (zVc S) 0).isSome) = g at hR
  have key : ∀ m v, v + m = zNv S → K5 I0 J0 (zSum S g v) (nI v) := by
    intro m
    induction m with
    | zero =>
      intro v hv
      have hv : v = zNv S := by omega
      subst hv
      apply c5
      unfold wp_M_guilty_5
      rw [hY.nv]
      exact ⟨fun _ => hR, fun h => absurd (nI_le (Nat.le_refl _) (by omega)) h⟩
    | succ m ih =>
      intro v hv
      have hgv : g v = (zPo (zQ S (nI v) a1 (!decide (a2 = 0))) (zVc S) 0).isSome := by rw [← hge]
      have hi := ih (v + 1) (by omega)
      apply c5
      unfold wp_M_guilty_5 fM_pair
      rw [hY.nv, nI_1, Int32.add_zero, ic (by omega), hY.r (j := 1) (by omega) (by omega)]
      refine ⟨fun h => absurd h (nI_ge (by omega) (by omega)), fun _ => ⟨S, hY, ?_⟩⟩
      cases hz : zPo (zQ S (nI v) a1 (!decide (a2 = 0))) (zVc S) 0 with
      | none =>
        rw [hz] at hgv
        rw [zSum_f hgv] at hi
        exact ⟨fun _ => hi, fun h => absurd oI_neg h⟩
      | some i =>
        rw [hz] at hgv
        rw [zSum_t hgv] at hi
        have hl := zPo_lt _ _ _ hz
        exact ⟨fun h => absurd h (oI_nn (by omega)), fun _ => ⟨i7_of (by omega), hi⟩⟩
  exact key (zNv S) 0 (by omega)
set_option maxHeartbeats 4000000 in
set_option maxRecDepth 100000 in
theorem C_M_guilty (l : Launch) (D : va_G) (ca : Nat → Nat) (ad : Nat → Nat) (S : mI) (I0 : mI) (J0 : mJ) (a1 : Int32) (a2 : Int32)  (hp : pY2 S I0 J0 a1 a2) : Met l yM_guilty wM_guilty ({ frames := 2, cells := 0, slots := 0, locals := 49 } : Room) (va_Pc [.ref (ad 0), .int a1, .int a2] (mPre D vwCl (xty ca) 23 ad (ymk ca ad) nL I0 J0)) (mQi D vwCl 23 ad (ymk ca ad) (fun r I' J' => r = fM_guilty S I0 J0 a1 a2 ∧ I' = I0 ∧ J' = J0)) 0 0 (mA 23 ad) := by
  refine Met.ofW (cc := cM_guilty) (maxL := 5) (ret := (some .int)) (by decide) rfl ?_
  intro p e s m args below meth c s₁ B hml hv
  obtain ⟨rfl, hP, hK, hD0, hN⟩ := hv
  have hx := B.exec
  have hb := B.bytes
  have hr := B.returns
  have htb : ∀ w ∈ wb, w.before _ s = true := fun w h => atoms_spec (ws := wM_guilty) B.pre w (List.mem_cons_of_mem _ h)
  have hown : s.vm.findClass RM = some m.cls := findClass_of_methodNamed B.named
  have hlk := B.notSynchronized
  have hD := mw_Dm hD0
  have hS : va_S (mA 23 ad) s.heap s.heap [] := va_S.rf
  have hl := lv_entry ([.ref (ad 0), .int a1, .int a2]) (n := 5) (Nat.le_of_ble_eq_true rfl)
  rw [lg_entry_eq]
  generalize (lg_sl ([.ref (ad 0), .int a1, .int a2]) ++ List.replicate (5 - (lg_sl ([.ref (ad 0), .int a1, .int a2])).length) Slot.unset).toArray = ls at hl ⊢
  have hl : lv_has ls 5 [(0, .ref (ad 0)), (1, .int a1), (2, .int a2)] := hl
  obtain ⟨K5, hK5⟩ : ∃ K : mI → mJ → Int32 → Int32 → Prop, K = (fun I J x3 x4 => ∀ (H : Heap) (locs : List Loc) (ls : Array Slot), va_P D vwCl (mw 23 ad (ymk ca ad) I J) H → va_S (mA 23 ad) s.heap H locs → lv_has ls 5 [(0, .ref (ad 0)), (1, .int a1), (2, .int a2), (3, .int x3), (4, .int x4)] → W p l e (headSpec wM_guilty ({ frames := 2, cells := 0, slots := 0, locals := 49 } : Room)).room s m (([.ref (ad 0), .int a1, .int a2] : List Value).toArray) below meth c H locs 0 0 (MQ below (mQi D vwCl 23 ad (ymk ca ad) (fun r I' J' => r = fM_guilty S I0 J0 a1 a2 ∧ I' = I0 ∧ J' = J0)) (([.ref (ad 0), .int a1, .int a2] : List Value).toArray) s 0 0 (mA 23 ad)) (F0 m 5 ls [])) := ⟨_, rfl⟩
  have c5 : ∀ (I : mI) (J : mJ) (x3 : Int32) (x4 : Int32), wp_M_guilty_5 K5 (fun r I' J' => r = fM_guilty S I0 J0 a1 a2 ∧ I' = I0 ∧ J' = J0) I J a1 a2 x3 x4 → K5 I J x3 x4 := by
    intro I J x3 x4 h
    rw [hK5]
    intro H locs ls hP hS hl
    unfold wp_M_guilty_5 at h
    refine lv_iload hx hb dM_guilty_5 (lv_at hl 4 rfl) ?_
    refine lv_aload_n hx hb dM_guilty_7 rfl (lv_at hl 0 rfl) ?_
    refine va_get (D := D) (ci := 6) (v := .int (I 0 0)) (C := RM) (T := TM) (N := 33) hx hb htb inM hown hK hP 0 (mw_at (by decide) (ym_0 _ _ _ _)) rfl 0 (by decide) (htb _ k2_172) (fun _ h9 => h9) rfl dM_guilty_8 ?_
    refine lv_icmp_ge (tgt := 45) hx hb dM_guilty_11 (by decide) (fun hc => ?_) (fun hc => ?_)
    · have h := h.1 hc
      refine lv_iload_n hx hb dM_guilty_45 rfl (lv_at hl 3 rfl) ?_
      exact me_i hx hb hr hlk hP hS h dM_guilty_46
    · have h := h.2 hc
      refine lv_iload_n hx hb dM_guilty_14 rfl (lv_at hl 3 rfl) ?_
      refine lv_aload_n hx hb dM_guilty_15 rfl (lv_at hl 0 rfl) ?_
      refine lv_iload hx hb dM_guilty_16 (lv_at hl 4 rfl) ?_
      refine lv_iload_n hx hb dM_guilty_18 rfl (lv_at hl 1 rfl) ?_
      refine lv_iload_n hx hb dM_guilty_19 rfl (lv_at hl 2 rfl) ?_
      obtain ⟨S1, h⟩ := h
      obtain ⟨hp2, h⟩ := h
      refine mc_r (va_runV (As := [.int x4, .int a1, .int a2]) (rest := [.int x3]) ⟨hx, hb, hml, hown, htb⟩ (C_M_pair l D ca ad S1 I J x4 a1 a2 hp2) (cwV 3 htb (gd_v k3_178 k3_180 ks37 k1_8 k3_181) rfl rfl rfl (by decide +kernel) ⟨Nat.le_of_ble_eq_true rfl, Nat.le_of_ble_eq_true rfl⟩) (mPre_V hK hP hD hN rfl (mw_at (by decide) (ym_0 _ _ _ _))) rfl rfl hl.1 rfl (lv_room (Nat.le_of_ble_eq_true rfl)) dM_guilty_20 ⟨Nat.le_of_ble_eq_true rfl, Nat.le_of_ble_eq_true rfl⟩) hS (fun H locs hP hS => ?_)
      refine lv_if_lt (tgt := 36) hx hb dM_guilty_23 (by decide) (fun hc => ?_) (fun hc => ?_)
      · have h := h.1 hc
        refine lv_iconst (v := 0) hx hb dM_guilty_36 (by decide) ?_
        refine lv_iadd hx hb dM_guilty_37 ?_
        refine lv_istore_n (lv' := [(3, .int (x3 + 0)), (0, .ref (ad 0)), (1, .int a1), (2, .int a2), (4, .int x4)]) hx hb dM_guilty_38 rfl hl (by decide) rfl (fun ls hl => ?_)
        refine lv_iinc (k := 4) (v := x4 + 1) (lv' := [(4, .int (x4 + 1)), (3, .int (x3 + 0)), (0, .ref (ad 0)), (1, .int a1), (2, .int a2)]) hx hb dM_guilty_39 hl rfl (by rfl) (by decide) rfl (fun ls hl => ?_)
        refine lv_goto (tgt := 5) hx hb dM_guilty_42 (by decide) ?_
        rw [hK5] at h
        exact h _ _ _ hP hS (lv_sub hl [2, 3, 4, 1, 0] rfl)
      · have h := h.2 hc
        refine lv_aload_n hx hb dM_guilty_26 rfl (lv_at hl 0 rfl) ?_
        refine va_get (D := D) (ci := 6) (v := .ref (ad 1)) (C := RM) (T := TM) (N := 33) hx hb htb inM hown hK hP 0 (mw_at (by decide) (ym_0 _ _ _ _)) rfl 2 (by decide) (htb _ k2_174) (fun _ h9 => h9) rfl dM_guilty_27 ?_
        refine lv_iload hx hb dM_guilty_30 (lv_at hl 4 rfl) ?_
        obtain ⟨hn3, h⟩ := h
        refine mr_iald hx hb hK hP 1 0 (by decide) rfl rfl hn3 dM_guilty_32 ?_
        refine lv_goto (tgt := 37) hx hb dM_guilty_33 (by decide) ?_
        refine lv_iadd hx hb dM_guilty_37 ?_
        refine lv_istore_n (lv' := [(3, .int (x3 + (I 1 x4.toNatClampNeg))), (0, .ref (ad 0)), (1, .int a1), (2, .int a2), (4, .int x4)]) hx hb dM_guilty_38 rfl hl (by decide) rfl (fun ls hl => ?_)
        refine lv_iinc (k := 4) (v := x4 + 1) (lv' := [(4, .int (x4 + 1)), (3, .int (x3 + (I 1 x4.toNatClampNeg))), (0, .ref (ad 0)), (1, .int a1), (2, .int a2)]) hx hb dM_guilty_39 hl rfl (by rfl) (by decide) rfl (fun ls hl => ?_)
        refine lv_goto (tgt := 5) hx hb dM_guilty_42 (by decide) ?_
        rw [hK5] at h
        exact h _ _ _ hP hS (lv_sub hl [2, 3, 4, 1, 0] rfl)
  have h := P_M_guilty S I0 J0 a1 a2  hp K5 (fun r I' J' => r = fM_guilty S I0 J0 a1 a2 ∧ I' = I0 ∧ J' = J0) c5 ⟨rfl, rfl, rfl⟩
  unfold wp_M_guilty at h
  refine lv_iconst (v := 0) hx hb dM_guilty_0 (by decide) ?_
  refine lv_istore_n (lv' := [(3, .int 0), (0, .ref (ad 0)), (1, .int a1), (2, .int a2)]) hx hb dM_guilty_1 rfl hl (by decide) rfl (fun ls hl => ?_)
  refine lv_iconst (v := 0) hx hb dM_guilty_2 (by decide) ?_
  refine lv_istore (lv' := [(4, .int 0), (3, .int 0), (0, .ref (ad 0)), (1, .int a1), (2, .int a2)]) hx hb dM_guilty_3 hl (by decide) rfl (fun ls hl => ?_)
  rw [hK5] at h
  exact h _ _ _ hP hS (lv_sub hl [2, 3, 4, 1, 0] rfl)
def wp_M_proof (R : Int32 → mI → mJ → Prop) (I0 : mI) (J0 : mJ) (a1 : Int32) : Prop :=
  ((¬ ((fM_isValidator I0 J0 a1) = 0) → (∃ (S2 : mI), (pY3 S2 I0 J0 a1 7 0 ∧ (((fM_pair S2 I0 J0 a1 7 0) < 0 → R (-3) I0 J0) ∧ (¬ ((fM_pair S2 I0 J0 a1 7 0) < 0) → R (fM_pair S2 I0 J0 a1 7 0) I0 J0))))) ∧ ((fM_isValidator I0 J0 a1) = 0 → R (-1) I0 J0))
theorem P_M_proof (S : mI) (I0 : mI) (J0 : mJ) (a1 : Int32)  (hp : pY1 S I0 J0 a1)  (R : Int32 → mI → mJ → Prop)  (hR : R (fM_proof S I0 J0 a1) I0 J0) : wp_M_proof R I0 J0 a1 := by
  have hY : YR S I0 := hp
  have hb := hY.1.b
  unfold fM_proof rPrf at hR
  unfold wp_M_proof
  refine ⟨fun h => ⟨S, hY, ?_⟩, fun h => ?_⟩
  · have h1 : iVd S a1 := nn (fun q => h (hY.isD.mpr q))
    rw [if_neg (fun q => q h1)] at hR
    unfold fM_pair
    rw [show (!decide ((0 : Int32) = 0)) = false from rfl]
    cases hz : zPo (zQ S a1 7 false) (zVc S) 0 with
    | none =>
      rw [hz] at hR
      exact ⟨fun _ => hR, fun h => absurd oI_neg h⟩
    | some x =>
      rw [hz] at hR
      have hi := zPo_lt _ _ _ hz
      exact ⟨fun h => absurd h (oI_nn (by omega)), fun _ => hR⟩
  · rw [if_pos (hY.isD.mp h)] at hR
    exact hR
set_option maxHeartbeats 4000000 in
set_option maxRecDepth 100000 in
theorem C_M_proof (l : Launch) (D : va_G) (ca : Nat → Nat) (ad : Nat → Nat) (S : mI) (I0 : mI) (J0 : mJ) (a1 : Int32)  (hp : pY1 S I0 J0 a1) : Met l yM_proof wM_proof ({ frames := 2, cells := 0, slots := 0, locals := 49 } : Room) (va_Pc [.ref (ad 0), .int a1] (mPre D vwCl (xty ca) 23 ad (ymk ca ad) nL I0 J0)) (mQi D vwCl 23 ad (ymk ca ad) (fun r I' J' => r = fM_proof S I0 J0 a1 ∧ I' = I0 ∧ J' = J0)) 0 0 (mA 23 ad) := by
  refine Met.ofW (cc := cM_proof) (maxL := 3) (ret := (some .int)) (by decide) rfl ?_
  intro p e s m args below meth c s₁ B hml hv
  obtain ⟨rfl, hP, hK, hD0, hN⟩ := hv
  have hx := B.exec
  have hb := B.bytes
  have hr := B.returns
  have htb : ∀ w ∈ wb, w.before _ s = true := fun w h => atoms_spec (ws := wM_proof) B.pre w (List.mem_cons_of_mem _ h)
  have hown : s.vm.findClass RM = some m.cls := findClass_of_methodNamed B.named
  have hlk := B.notSynchronized
  have hD := mw_Dm hD0
  have hS : va_S (mA 23 ad) s.heap s.heap [] := va_S.rf
  have hl := lv_entry ([.ref (ad 0), .int a1]) (n := 3) (Nat.le_of_ble_eq_true rfl)
  rw [lg_entry_eq]
  generalize (lg_sl ([.ref (ad 0), .int a1]) ++ List.replicate (3 - (lg_sl ([.ref (ad 0), .int a1])).length) Slot.unset).toArray = ls at hl ⊢
  have hl : lv_has ls 3 [(0, .ref (ad 0)), (1, .int a1)] := hl
  have h := P_M_proof S I0 J0 a1  hp  (fun r I' J' => r = fM_proof S I0 J0 a1 ∧ I' = I0 ∧ J' = J0)  ⟨rfl, rfl, rfl⟩
  unfold wp_M_proof at h
  refine lv_aload_n hx hb dM_proof_0 rfl (lv_at hl 0 rfl) ?_
  refine lv_iload_n hx hb dM_proof_1 rfl (lv_at hl 1 rfl) ?_
  refine mc_r (va_runV (As := [.int a1]) (rest := []) ⟨hx, hb, hml, hown, htb⟩ (C_M_isValidator l D ca ad I0 J0 a1) (cwV 1 htb (gd_v k3_36 k3_38 ks19 k1_8 k3_39) rfl rfl rfl (by decide +kernel) ⟨Nat.le_of_ble_eq_true rfl, Nat.le_of_ble_eq_true rfl⟩) (mPre_V hK hP hD hN rfl (mw_at (by decide) (ym_0 _ _ _ _))) rfl rfl hl.1 rfl (lv_room (Nat.le_of_ble_eq_true rfl)) dM_proof_2 ⟨Nat.le_of_ble_eq_true rfl, Nat.le_of_ble_eq_true rfl⟩) hS (fun H locs hP hS => ?_)
  refine lv_if_ne (tgt := 10) hx hb dM_proof_5 (by decide) (fun hc => ?_) (fun hc => ?_)
  · have h := h.1 hc
    refine lv_aload_n hx hb dM_proof_10 rfl (lv_at hl 0 rfl) ?_
    refine lv_iload_n hx hb dM_proof_11 rfl (lv_at hl 1 rfl) ?_
    refine lv_bipush (v := 7) hx hb dM_proof_12 (by decide) ?_
    refine lv_iconst (v := 0) hx hb dM_proof_14 (by decide) ?_
    obtain ⟨S2, h⟩ := h
    obtain ⟨hp3, h⟩ := h
    refine mc_r (va_runV (As := [.int a1, .int 7, .int 0]) (rest := []) ⟨hx, hb, hml, hown, htb⟩ (C_M_pair l D ca ad S2 I0 J0 a1 7 0 hp3) (cwV 3 htb (gd_v k3_178 k3_180 ks37 k1_8 k3_181) rfl rfl rfl (by decide +kernel) ⟨Nat.le_of_ble_eq_true rfl, Nat.le_of_ble_eq_true rfl⟩) (mPre_V hK hP hD hN rfl (mw_at (by decide) (ym_0 _ _ _ _))) rfl rfl hl.1 rfl (lv_room (Nat.le_of_ble_eq_true rfl)) dM_proof_15 ⟨Nat.le_of_ble_eq_true rfl, Nat.le_of_ble_eq_true rfl⟩) hS (fun H locs hP hS => ?_)
    refine lv_istore_n (lv' := [(2, .int (fM_pair S2 I0 J0 a1 7 0)), (0, .ref (ad 0)), (1, .int a1)]) hx hb dM_proof_18 rfl hl (by decide) rfl (fun ls hl => ?_)
    refine lv_iload_n hx hb dM_proof_19 rfl (lv_at hl 0 rfl) ?_
    refine lv_if_lt (tgt := 27) hx hb dM_proof_20 (by decide) (fun hc => ?_) (fun hc => ?_)
    · have h := h.1 hc
      refine lv_bipush (v := (-3)) hx hb dM_proof_27 (by decide) ?_
      exact me_i hx hb hr hlk hP hS h dM_proof_29
    · have h := h.2 hc
      refine lv_iload_n hx hb dM_proof_23 rfl (lv_at hl 0 rfl) ?_
      refine lv_goto (tgt := 29) hx hb dM_proof_24 (by decide) ?_
      exact me_i hx hb hr hlk hP hS h dM_proof_29
  · have h := h.2 hc
    refine lv_iconst (v := (-1)) hx hb dM_proof_8 (by decide) ?_
    exact me_i hx hb hr hlk hP hS h dM_proof_9
def wp_M_latest_5 (K5 : mI → mJ → Int32 → Int32 → Prop) (R : Int32 → mI → mJ → Prop) (I : mI) (J : mJ) (a1 : Int32) (a2 : Int32) (x3 : Int32) (x4 : Int32) : Prop :=
  (((I 0 11) ≤ x4 → R x3 I J) ∧ (¬ ((I 0 11) ≤ x4) → (vp_in ((80 * a1) + x4) 240 ∧ (((I 15 ((80 * a1) + x4).toNatClampNeg) = 0 → K5 I J x3 (x4 + 1)) ∧ (¬ ((I 15 ((80 * a1) + x4).toNatClampNeg) = 0) → (vp_in x4 80 ∧ ((¬ ((I 7 x4.toNatClampNeg) = a2) → K5 I J x3 (x4 + 1)) ∧ ((I 7 x4.toNatClampNeg) = a2 → ((x3 < 0 → K5 I J x4 (x4 + 1)) ∧ (¬ (x3 < 0) → (vp_in x4 80 ∧ (vp_in x3 80 ∧ (((I 8 x4.toNatClampNeg) < (I 8 x3.toNatClampNeg) → K5 I J x3 (x4 + 1)) ∧ (¬ ((I 8 x4.toNatClampNeg) < (I 8 x3.toNatClampNeg)) → K5 I J x4 (x4 + 1)))))))))))))))
def wp_M_latest (K5 : mI → mJ → Int32 → Int32 → Prop) (R : Int32 → mI → mJ → Prop) (I0 : mI) (J0 : mJ) (a1 : Int32) (a2 : Int32) : Prop :=
  K5 I0 J0 (-1) 0
theorem P_M_latest (S : mI) (I0 : mI) (J0 : mJ) (a1 : Int32) (a2 : Int32)  (hp : pM_latest S I0 J0 a1 a2) (K5 : mI → mJ → Int32 → Int32 → Prop) (R : Int32 → mI → mJ → Prop) (c5 : ∀ (I : mI) (J : mJ) (x3 : Int32) (x4 : Int32), wp_M_latest_5 K5 R I J a1 a2 x3 x4 → K5 I J x3 x4) (hR : R (fM_latest S I0 J0 a1 a2) I0 J0) : wp_M_latest K5 R I0 J0 a1 a2 := by
  obtain ⟨hY, ⟨n, hn, rfl⟩, ⟨v, hv, rfl⟩⟩ := hp
  have hb := hY.1.b
  unfold fM_latest at hR
  rw [cN_nI (by omega), cN_nI (by omega)] at hR
  have key : ∀ m i, i + m = zVc S → K5 I0 J0 (oI (zLf S n v i)) (nI i) := by
    intro m
    induction m with
    | zero =>
      intro i hi
      have hi : i = zVc S := by omega
      subst hi
      apply c5
      unfold wp_M_latest_5
      rw [hY.vc]
      exact ⟨fun _ => hR, fun h => absurd (nI_le (Nat.le_refl _) (by omega)) h⟩
    | succ m ih =>
      intro i hi
      have hk := ih (i + 1) (by omega)
      have hii : i < zVc S := by omega
      have vi := hY.1.v hii
      have wi := hY.1.2.2.2.1 i hii
      simp only [zLf] at hk
      apply c5
      unfold wp_M_latest_5
      rw [hY.vc, nI_1, ix80, ic (n := 80 * n + i) (by omega), ic (n := i) (by omega), hY.r (j := 15) (by omega) (by omega), hY.r (j := 7) (by omega) (by omega), hY.r (j := 8) (by omega) (by omega), wi.1, wi.2.2.1, hr_0, nI_eq (by omega) (by omega)]
      refine ⟨fun h => absurd h (nI_ge (by omega) (by omega)), fun _ => ⟨iin (by omega) (by omega), fun h => ?_, fun h => ⟨iin (by omega) (by omega), fun h2 => ?_, fun h2 => ?_⟩⟩⟩
      · rw [h, Bool.false_and, Bool.false_and, if_neg (by decide)] at hk
        exact hk
      · rw [decide_eq_false h2, Bool.and_false, Bool.false_and, if_neg (by decide)] at hk
        exact hk
      · rw [nf h, decide_eq_true h2, Bool.true_and, Bool.true_and] at hk
        cases hz : zLf S n v i with
        | none =>
          rw [hz] at hk
          exact ⟨fun _ => hk, fun z => absurd oI_neg z⟩
        | some b =>
          rw [hz] at hk
          have hbl := ((zLf_all S n v i).1 b hz).1
          have vb := hY.1.v (show b < zVc S by omega)
          have wb0 := hY.1.2.2.2.1 b (show b < zVc S by omega)
          rw [show oI (some b) = nI b from rfl, ic (n := b) (by omega), wb0.2.2.1, nI_ltI (by omega) (by omega)]
          refine ⟨fun z => absurd z (nI_pos (by omega)), fun _ => ⟨iin (by omega) (by omega), iin (by omega) (by omega), fun z => ?_, fun z => ?_⟩⟩
          · rw [if_neg (fun y => absurd (of_decide_eq_true y) (by omega))] at hk
            exact hk
          · rw [if_pos (decide_eq_true (by omega))] at hk
            exact hk
  exact key (zVc S) 0 (by omega)
set_option maxHeartbeats 4000000 in
set_option maxRecDepth 100000 in
theorem C_M_latest (l : Launch) (D : va_G) (ca : Nat → Nat) (ad : Nat → Nat) (S : mI) (I0 : mI) (J0 : mJ) (a1 : Int32) (a2 : Int32)  (hp : pM_latest S I0 J0 a1 a2) : Met l yM_latest wM_latest ({ frames := 0, cells := 0, slots := 0, locals := 0 } : Room) (va_Pc [.ref (ad 0), .int a1, .int a2] (mPre D vwCl (xty ca) 23 ad (ymk ca ad) nL I0 J0)) (mQi D vwCl 23 ad (ymk ca ad) (fun r I' J' => r = fM_latest S I0 J0 a1 a2 ∧ I' = I0 ∧ J' = J0)) 0 0 (mA 23 ad) := by
  refine Met.ofW (cc := cM_latest) (maxL := 5) (ret := (some .int)) (by decide) rfl ?_
  intro p e s m args below meth c s₁ B hml hv
  obtain ⟨rfl, hP, hK, hD0, hN⟩ := hv
  have hx := B.exec
  have hb := B.bytes
  have hr := B.returns
  have htb : ∀ w ∈ wb, w.before _ s = true := fun w h => atoms_spec (ws := wM_latest) B.pre w (List.mem_cons_of_mem _ h)
  have hown : s.vm.findClass RM = some m.cls := findClass_of_methodNamed B.named
  have hlk := B.notSynchronized
  have hD := mw_Dm hD0
  have hS : va_S (mA 23 ad) s.heap s.heap [] := va_S.rf
  have hl := lv_entry ([.ref (ad 0), .int a1, .int a2]) (n := 5) (Nat.le_of_ble_eq_true rfl)
  rw [lg_entry_eq]
  generalize (lg_sl ([.ref (ad 0), .int a1, .int a2]) ++ List.replicate (5 - (lg_sl ([.ref (ad 0), .int a1, .int a2])).length) Slot.unset).toArray = ls at hl ⊢
  have hl : lv_has ls 5 [(0, .ref (ad 0)), (1, .int a1), (2, .int a2)] := hl
  obtain ⟨K5, hK5⟩ : ∃ K : mI → mJ → Int32 → Int32 → Prop, K = (fun I J x3 x4 => ∀ (H : Heap) (locs : List Loc) (ls : Array Slot), va_P D vwCl (mw 23 ad (ymk ca ad) I J) H → va_S (mA 23 ad) s.heap H locs → lv_has ls 5 [(0, .ref (ad 0)), (1, .int a1), (2, .int a2), (3, .int x3), (4, .int x4)] → W p l e (headSpec wM_latest ({ frames := 0, cells := 0, slots := 0, locals := 0 } : Room)).room s m (([.ref (ad 0), .int a1, .int a2] : List Value).toArray) below meth c H locs 0 0 (MQ below (mQi D vwCl 23 ad (ymk ca ad) (fun r I' J' => r = fM_latest S I0 J0 a1 a2 ∧ I' = I0 ∧ J' = J0)) (([.ref (ad 0), .int a1, .int a2] : List Value).toArray) s 0 0 (mA 23 ad)) (F0 m 5 ls [])) := ⟨_, rfl⟩
  have c5 : ∀ (I : mI) (J : mJ) (x3 : Int32) (x4 : Int32), wp_M_latest_5 K5 (fun r I' J' => r = fM_latest S I0 J0 a1 a2 ∧ I' = I0 ∧ J' = J0) I J a1 a2 x3 x4 → K5 I J x3 x4 := by
    intro I J x3 x4 h
    rw [hK5]
    intro H locs ls hP hS hl
    unfold wp_M_latest_5 at h
    refine lv_iload hx hb dM_latest_5 (lv_at hl 4 rfl) ?_
    refine lv_aload_n hx hb dM_latest_7 rfl (lv_at hl 0 rfl) ?_
    refine va_get (D := D) (ci := 6) (v := .int (I 0 11)) (C := RM) (T := TM) (N := 33) hx hb htb inM hown hK hP 0 (mw_at (by decide) (ym_0 _ _ _ _)) rfl 11 (by decide) (htb _ k2_183) (fun _ h9 => h9) rfl dM_latest_8 ?_
    refine lv_icmp_ge (tgt := 69) hx hb dM_latest_11 (by decide) (fun hc => ?_) (fun hc => ?_)
    · have h := h.1 hc
      refine lv_iload_n hx hb dM_latest_69 rfl (lv_at hl 3 rfl) ?_
      exact me_i hx hb hr hlk hP hS h dM_latest_70
    · have h := h.2 hc
      refine lv_aload_n hx hb dM_latest_14 rfl (lv_at hl 0 rfl) ?_
      refine va_get (D := D) (ci := 6) (v := .ref (ad 15)) (C := RM) (T := TM) (N := 33) hx hb htb inM hown hK hP 0 (mw_at (by decide) (ym_0 _ _ _ _)) rfl 20 (by decide) (htb _ k2_192) (fun _ h9 => h9) rfl dM_latest_15 ?_
      refine lv_bipush (v := 80) hx hb dM_latest_18 (by decide) ?_
      refine lv_iload_n hx hb dM_latest_20 rfl (lv_at hl 1 rfl) ?_
      refine lv_imul hx hb dM_latest_21 ?_
      refine lv_iload hx hb dM_latest_22 (lv_at hl 4 rfl) ?_
      refine lv_iadd hx hb dM_latest_24 ?_
      obtain ⟨hn1, h⟩ := h
      refine mr_zald hx hb hK hP 15 1 (by decide) rfl rfl hn1 dM_latest_25 ?_
      refine lv_if_eq (tgt := 63) hx hb dM_latest_26 (by decide) (fun hc => ?_) (fun hc => ?_)
      · have h := h.1 hc
        refine lv_iinc (k := 4) (v := x4 + 1) (lv' := [(4, .int (x4 + 1)), (0, .ref (ad 0)), (1, .int a1), (2, .int a2), (3, .int x3)]) hx hb dM_latest_63 hl rfl (by rfl) (by decide) rfl (fun ls hl => ?_)
        refine lv_goto (tgt := 5) hx hb dM_latest_66 (by decide) ?_
        rw [hK5] at h
        exact h _ _ _ hP hS (lv_sub hl [1, 2, 3, 4, 0] rfl)
      · have h := h.2 hc
        refine lv_aload_n hx hb dM_latest_29 rfl (lv_at hl 0 rfl) ?_
        refine va_get (D := D) (ci := 6) (v := .ref (ad 7)) (C := RM) (T := TM) (N := 33) hx hb htb inM hown hK hP 0 (mw_at (by decide) (ym_0 _ _ _ _)) rfl 12 (by decide) (htb _ k2_184) (fun _ h9 => h9) rfl dM_latest_30 ?_
        refine lv_iload hx hb dM_latest_33 (lv_at hl 4 rfl) ?_
        obtain ⟨hn2, h⟩ := h
        refine mr_iald hx hb hK hP 7 0 (by decide) rfl rfl hn2 dM_latest_35 ?_
        refine lv_iload_n hx hb dM_latest_36 rfl (lv_at hl 2 rfl) ?_
        refine lv_icmp_ne (tgt := 63) hx hb dM_latest_37 (by decide) (fun hc => ?_) (fun hc => ?_)
        · have h := h.1 hc
          refine lv_iinc (k := 4) (v := x4 + 1) (lv' := [(4, .int (x4 + 1)), (0, .ref (ad 0)), (1, .int a1), (2, .int a2), (3, .int x3)]) hx hb dM_latest_63 hl rfl (by rfl) (by decide) rfl (fun ls hl => ?_)
          refine lv_goto (tgt := 5) hx hb dM_latest_66 (by decide) ?_
          rw [hK5] at h
          exact h _ _ _ hP hS (lv_sub hl [1, 2, 3, 4, 0] rfl)
        · have h := h.2 hc
          refine lv_iload_n hx hb dM_latest_40 rfl (lv_at hl 3 rfl) ?_
          refine lv_if_lt (tgt := 60) hx hb dM_latest_41 (by decide) (fun hc => ?_) (fun hc => ?_)
          · have h := h.1 hc
            refine lv_iload hx hb dM_latest_60 (lv_at hl 4 rfl) ?_
            refine lv_istore_n (lv' := [(3, .int x4), (0, .ref (ad 0)), (1, .int a1), (2, .int a2), (4, .int x4)]) hx hb dM_latest_62 rfl hl (by decide) rfl (fun ls hl => ?_)
            refine lv_iinc (k := 4) (v := x4 + 1) (lv' := [(4, .int (x4 + 1)), (3, .int x4), (0, .ref (ad 0)), (1, .int a1), (2, .int a2)]) hx hb dM_latest_63 hl rfl (by rfl) (by decide) rfl (fun ls hl => ?_)
            refine lv_goto (tgt := 5) hx hb dM_latest_66 (by decide) ?_
            rw [hK5] at h
            exact h _ _ _ hP hS (lv_sub hl [2, 3, 4, 1, 0] rfl)
          · have h := h.2 hc
            refine lv_aload_n hx hb dM_latest_44 rfl (lv_at hl 0 rfl) ?_
            refine va_get (D := D) (ci := 6) (v := .ref (ad 8)) (C := RM) (T := TM) (N := 33) hx hb htb inM hown hK hP 0 (mw_at (by decide) (ym_0 _ _ _ _)) rfl 13 (by decide) (htb _ k2_185) (fun _ h9 => h9) rfl dM_latest_45 ?_
            refine lv_iload hx hb dM_latest_48 (lv_at hl 4 rfl) ?_
            obtain ⟨hn3, h⟩ := h
            refine mr_iald hx hb hK hP 8 0 (by decide) rfl rfl hn3 dM_latest_50 ?_
            refine lv_aload_n hx hb dM_latest_51 rfl (lv_at hl 0 rfl) ?_
            refine va_get (D := D) (ci := 6) (v := .ref (ad 8)) (C := RM) (T := TM) (N := 33) hx hb htb inM hown hK hP 0 (mw_at (by decide) (ym_0 _ _ _ _)) rfl 13 (by decide) (htb _ k2_185) (fun _ h9 => h9) rfl dM_latest_52 ?_
            refine lv_iload_n hx hb dM_latest_55 rfl (lv_at hl 3 rfl) ?_
            obtain ⟨hn4, h⟩ := h
            refine mr_iald hx hb hK hP 8 0 (by decide) rfl rfl hn4 dM_latest_56 ?_
            refine lv_icmp_lt (tgt := 63) hx hb dM_latest_57 (by decide) (fun hc => ?_) (fun hc => ?_)
            · have h := h.1 hc
              refine lv_iinc (k := 4) (v := x4 + 1) (lv' := [(4, .int (x4 + 1)), (0, .ref (ad 0)), (1, .int a1), (2, .int a2), (3, .int x3)]) hx hb dM_latest_63 hl rfl (by rfl) (by decide) rfl (fun ls hl => ?_)
              refine lv_goto (tgt := 5) hx hb dM_latest_66 (by decide) ?_
              rw [hK5] at h
              exact h _ _ _ hP hS (lv_sub hl [1, 2, 3, 4, 0] rfl)
            · have h := h.2 hc
              refine lv_iload hx hb dM_latest_60 (lv_at hl 4 rfl) ?_
              refine lv_istore_n (lv' := [(3, .int x4), (0, .ref (ad 0)), (1, .int a1), (2, .int a2), (4, .int x4)]) hx hb dM_latest_62 rfl hl (by decide) rfl (fun ls hl => ?_)
              refine lv_iinc (k := 4) (v := x4 + 1) (lv' := [(4, .int (x4 + 1)), (3, .int x4), (0, .ref (ad 0)), (1, .int a1), (2, .int a2)]) hx hb dM_latest_63 hl rfl (by rfl) (by decide) rfl (fun ls hl => ?_)
              refine lv_goto (tgt := 5) hx hb dM_latest_66 (by decide) ?_
              rw [hK5] at h
              exact h _ _ _ hP hS (lv_sub hl [2, 3, 4, 1, 0] rfl)
  have h := P_M_latest S I0 J0 a1 a2  hp K5 (fun r I' J' => r = fM_latest S I0 J0 a1 a2 ∧ I' = I0 ∧ J' = J0) c5 ⟨rfl, rfl, rfl⟩
  unfold wp_M_latest at h
  refine lv_iconst (v := (-1)) hx hb dM_latest_0 (by decide) ?_
  refine lv_istore_n (lv' := [(3, .int (-1)), (0, .ref (ad 0)), (1, .int a1), (2, .int a2)]) hx hb dM_latest_1 rfl hl (by decide) rfl (fun ls hl => ?_)
  refine lv_iconst (v := 0) hx hb dM_latest_2 (by decide) ?_
  refine lv_istore (lv' := [(4, .int 0), (3, .int (-1)), (0, .ref (ad 0)), (1, .int a1), (2, .int a2)]) hx hb dM_latest_3 hl (by decide) rfl (fun ls hl => ?_)
  rw [hK5] at h
  exact h _ _ _ hP hS (lv_sub hl [2, 3, 4, 1, 0] rfl)
def wp_M_support_5 (K5 : mI → mJ → Int32 → Int32 → Prop) (R : Int32 → mI → mJ → Prop) (I : mI) (J : mJ) (a1 : Int32) (a2 : Int32) (x3 : Int32) (x4 : Int32) : Prop :=
  (((I 0 0) ≤ x4 → R x3 I J) ∧ (¬ ((I 0 0) ≤ x4) → (∃ (S1 : mI), (pM_latest S1 I J a1 x4 ∧ (((fM_latest S1 I J a1 x4) < 0 → K5 I J (x3 + 0) (x4 + 1)) ∧ (¬ ((fM_latest S1 I J a1 x4) < 0) → (vp_in (fM_latest S1 I J a1 x4) 80 ∧ (∃ (S4 : mI), (pM_descends S4 I J (I 9 (fM_latest S1 I J a1 x4).toNatClampNeg) a2 ∧ (((fM_descends S4 I J (I 9 (fM_latest S1 I J a1 x4).toNatClampNeg) a2) = 0 → K5 I J (x3 + 0) (x4 + 1)) ∧ (¬ ((fM_descends S4 I J (I 9 (fM_latest S1 I J a1 x4).toNatClampNeg) a2) = 0) → (vp_in x4 7 ∧ K5 I J (x3 + (I 1 x4.toNatClampNeg)) (x4 + 1)))))))))))))
def wp_M_support (K5 : mI → mJ → Int32 → Int32 → Prop) (R : Int32 → mI → mJ → Prop) (I0 : mI) (J0 : mJ) (a1 : Int32) (a2 : Int32) : Prop :=
  K5 I0 J0 0 0
theorem P_M_support (S : mI) (I0 : mI) (J0 : mJ) (a1 : Int32) (a2 : Int32)  (hp : pM_support S I0 J0 a1 a2) (K5 : mI → mJ → Int32 → Int32 → Prop) (R : Int32 → mI → mJ → Prop) (c5 : ∀ (I : mI) (J : mJ) (x3 : Int32) (x4 : Int32), wp_M_support_5 K5 R I J a1 a2 x3 x4 → K5 I J x3 x4) (hR : R (fM_support S I0 J0 a1 a2) I0 J0) : wp_M_support K5 R I0 J0 a1 a2 := by
  obtain ⟨hY, ⟨n, hn, rfl⟩, ⟨b, hb0, rfl⟩⟩ := hp
  have hb := hY.1.b
  unfold fM_support zSup at hR
  rw [cN_nI (by omega), cN_nI (by omega)] at hR
  generalize hge : (fun v => match zLf S n v (zVc S) with | none => false | some i => zD S (zVh S i) b) = g at hR
  have key : ∀ m v, v + m = zNv S → K5 I0 J0 (zSum S g v) (nI v) := by
    intro m
    induction m with
    | zero =>
      intro v hv
      have hv : v = zNv S := by omega
      subst hv
      apply c5
      unfold wp_M_support_5
      rw [hY.nv]
      exact ⟨fun _ => hR, fun h => absurd (nI_le (Nat.le_refl _) (by omega)) h⟩
    | succ m ih =>
      intro v hv
      have hgv : g v = (match zLf S n v (zVc S) with | none => false | some i => zD S (zVh S i) b) := by rw [← hge]
      have hi := ih (v + 1) (by omega)
      apply c5
      unfold wp_M_support_5 fM_latest
      rw [hY.nv, nI_1, Int32.add_zero, ic (n := v) (by omega), cN_nI (n := n) (by omega), cN_nI (n := v) (by omega), hY.r (j := 1) (by omega) (by omega)]
      refine ⟨fun h => absurd h (nI_ge (by omega) (by omega)), fun _ => ⟨S, ⟨hY, ⟨n, hn, rfl⟩, ⟨v, by omega, rfl⟩⟩, ?_⟩⟩
      cases hz : zLf S n v (zVc S) with
      | none =>
        rw [hz] at hgv
        rw [zSum_f hgv] at hi
        exact ⟨fun _ => hi, fun h => absurd oI_neg h⟩
      | some i =>
        rw [hz] at hgv
        have hgv : g v = zD S (zVh S i) b := hgv
        have hil : i < zVc S := ((zLf_all S n v (zVc S)).1 i hz).1
        have vi := hY.1.v hil
        have wi := hY.1.2.2.2.1 i hil
        refine ⟨fun h => absurd h (oI_nn (by omega)), fun _ => ?_⟩
        rw [show oI (some i) = nI i from rfl, ic (n := i) (by omega), hY.r (j := 9) (by omega) (by omega), wi.2.2.2.2.1]
        refine ⟨iin (by omega) (by omega), S, ⟨hY, ⟨zVh S i, vi.2.2.1, rfl⟩, ⟨b, by omega, rfl⟩⟩, ?_⟩
        unfold fM_descends
        rw [cN_nI (n := zVh S i) (by omega), cN_nI (n := b) (by omega)]
        refine ⟨fun h => ?_, fun h => ⟨i7_of (by omega), ?_⟩⟩
        · rw [zSum_f (by rw [hgv]; exact bz_0.mp h)] at hi
          exact hi
        · rw [zSum_t (by rw [hgv]; exact bz_n0.mp h)] at hi
          exact hi
  exact key (zNv S) 0 (by omega)
set_option maxHeartbeats 4000000 in
set_option maxRecDepth 100000 in
theorem C_M_support (l : Launch) (D : va_G) (ca : Nat → Nat) (ad : Nat → Nat) (S : mI) (I0 : mI) (J0 : mJ) (a1 : Int32) (a2 : Int32)  (hp : pM_support S I0 J0 a1 a2) : Met l yM_support wM_support ({ frames := 1, cells := 0, slots := 0, locals := 24 } : Room) (va_Pc [.ref (ad 0), .int a1, .int a2] (mPre D vwCl (xty ca) 23 ad (ymk ca ad) nL I0 J0)) (mQi D vwCl 23 ad (ymk ca ad) (fun r I' J' => r = fM_support S I0 J0 a1 a2 ∧ I' = I0 ∧ J' = J0)) 0 0 (mA 23 ad) := by
  refine Met.ofW (cc := cM_support) (maxL := 6) (ret := (some .int)) (by decide) rfl ?_
  intro p e s m args below meth c s₁ B hml hv
  obtain ⟨rfl, hP, hK, hD0, hN⟩ := hv
  have hx := B.exec
  have hb := B.bytes
  have hr := B.returns
  have htb : ∀ w ∈ wb, w.before _ s = true := fun w h => atoms_spec (ws := wM_support) B.pre w (List.mem_cons_of_mem _ h)
  have hown : s.vm.findClass RM = some m.cls := findClass_of_methodNamed B.named
  have hlk := B.notSynchronized
  have hD := mw_Dm hD0
  have hS : va_S (mA 23 ad) s.heap s.heap [] := va_S.rf
  have hl := lv_entry ([.ref (ad 0), .int a1, .int a2]) (n := 6) (Nat.le_of_ble_eq_true rfl)
  rw [lg_entry_eq]
  generalize (lg_sl ([.ref (ad 0), .int a1, .int a2]) ++ List.replicate (6 - (lg_sl ([.ref (ad 0), .int a1, .int a2])).length) Slot.unset).toArray = ls at hl ⊢
  have hl : lv_has ls 6 [(0, .ref (ad 0)), (1, .int a1), (2, .int a2)] := hl
  obtain ⟨K5, hK5⟩ : ∃ K : mI → mJ → Int32 → Int32 → Prop, K = (fun I J x3 x4 => ∀ (H : Heap) (locs : List Loc) (ls : Array Slot), va_P D vwCl (mw 23 ad (ymk ca ad) I J) H → va_S (mA 23 ad) s.heap H locs → lv_has ls 6 [(0, .ref (ad 0)), (1, .int a1), (2, .int a2), (3, .int x3), (4, .int x4)] → W p l e (headSpec wM_support ({ frames := 1, cells := 0, slots := 0, locals := 24 } : Room)).room s m (([.ref (ad 0), .int a1, .int a2] : List Value).toArray) below meth c H locs 0 0 (MQ below (mQi D vwCl 23 ad (ymk ca ad) (fun r I' J' => r = fM_support S I0 J0 a1 a2 ∧ I' = I0 ∧ J' = J0)) (([.ref (ad 0), .int a1, .int a2] : List Value).toArray) s 0 0 (mA 23 ad)) (F0 m 5 ls [])) := ⟨_, rfl⟩
  have c5 : ∀ (I : mI) (J : mJ) (x3 : Int32) (x4 : Int32), wp_M_support_5 K5 (fun r I' J' => r = fM_support S I0 J0 a1 a2 ∧ I' = I0 ∧ J' = J0) I J a1 a2 x3 x4 → K5 I J x3 x4 := by
    intro I J x3 x4 h
    rw [hK5]
    intro H locs ls hP hS hl
    unfold wp_M_support_5 at h
    refine lv_iload hx hb dM_support_5 (lv_at hl 4 rfl) ?_
    refine lv_aload_n hx hb dM_support_7 rfl (lv_at hl 0 rfl) ?_
    refine va_get (D := D) (ci := 6) (v := .int (I 0 0)) (C := RM) (T := TM) (N := 33) hx hb htb inM hown hK hP 0 (mw_at (by decide) (ym_0 _ _ _ _)) rfl 0 (by decide) (htb _ k2_172) (fun _ h9 => h9) rfl dM_support_8 ?_
    refine lv_icmp_ge (tgt := 63) hx hb dM_support_11 (by decide) (fun hc => ?_) (fun hc => ?_)
    · have h := h.1 hc
      refine lv_iload_n hx hb dM_support_63 rfl (lv_at hl 3 rfl) ?_
      exact me_i hx hb hr hlk hP hS h dM_support_64
    · have h := h.2 hc
      refine lv_aload_n hx hb dM_support_14 rfl (lv_at hl 0 rfl) ?_
      refine lv_iload_n hx hb dM_support_15 rfl (lv_at hl 1 rfl) ?_
      refine lv_iload hx hb dM_support_16 (lv_at hl 4 rfl) ?_
      obtain ⟨S1, h⟩ := h
      obtain ⟨hp2, h⟩ := h
      refine mc_r (va_runV (As := [.int a1, .int x4]) (rest := []) ⟨hx, hb, hml, hown, htb⟩ (C_M_latest l D ca ad S1 I J a1 x4 hp2) (cwV 2 htb (gd_v k3_162 k3_164 ks36 k1_8 k3_165) rfl rfl rfl (by decide +kernel) ⟨Nat.le_of_ble_eq_true rfl, Nat.le_of_ble_eq_true rfl⟩) (mPre_V hK hP hD hN rfl (mw_at (by decide) (ym_0 _ _ _ _))) rfl rfl hl.1 rfl (lv_room (Nat.le_of_ble_eq_true rfl)) dM_support_18 ⟨Nat.le_of_ble_eq_true rfl, Nat.le_of_ble_eq_true rfl⟩) hS (fun H locs hP hS => ?_)
      refine lv_istore (lv' := [(5, .int (fM_latest S1 I J a1 x4)), (0, .ref (ad 0)), (1, .int a1), (2, .int a2), (3, .int x3), (4, .int x4)]) hx hb dM_support_21 hl (by decide) rfl (fun ls hl => ?_)
      refine lv_iload_n hx hb dM_support_23 rfl (lv_at hl 4 rfl) ?_
      refine lv_iload hx hb dM_support_24 (lv_at hl 0 rfl) ?_
      refine lv_if_lt (tgt := 54) hx hb dM_support_26 (by decide) (fun hc => ?_) (fun hc => ?_)
      · have h := h.1 hc
        refine lv_iconst (v := 0) hx hb dM_support_54 (by decide) ?_
        refine lv_iadd hx hb dM_support_55 ?_
        refine lv_istore_n (lv' := [(3, .int (x3 + 0)), (5, .int (fM_latest S1 I J a1 x4)), (0, .ref (ad 0)), (1, .int a1), (2, .int a2), (4, .int x4)]) hx hb dM_support_56 rfl hl (by decide) rfl (fun ls hl => ?_)
        refine lv_iinc (k := 5) (v := x4 + 1) (lv' := [(4, .int (x4 + 1)), (3, .int (x3 + 0)), (5, .int (fM_latest S1 I J a1 x4)), (0, .ref (ad 0)), (1, .int a1), (2, .int a2)]) hx hb dM_support_57 hl rfl (by rfl) (by decide) rfl (fun ls hl => ?_)
        refine lv_goto (tgt := 5) hx hb dM_support_60 (by decide) ?_
        rw [hK5] at h
        exact h _ _ _ hP hS (lv_sub hl [3, 4, 5, 1, 0] rfl)
      · have h := h.2 hc
        refine lv_aload_n hx hb dM_support_29 rfl (lv_at hl 1 rfl) ?_
        refine lv_aload_n hx hb dM_support_30 rfl (lv_at hl 1 rfl) ?_
        refine va_get (D := D) (ci := 6) (v := .ref (ad 9)) (C := RM) (T := TM) (N := 33) hx hb htb inM hown hK hP 0 (mw_at (by decide) (ym_0 _ _ _ _)) rfl 14 (by decide) (htb _ k2_186) (fun _ h9 => h9) rfl dM_support_31 ?_
        refine lv_iload hx hb dM_support_34 (lv_at hl 0 rfl) ?_
        obtain ⟨hn3, h⟩ := h
        refine mr_iald hx hb hK hP 9 0 (by decide) rfl rfl hn3 dM_support_36 ?_
        refine lv_iload_n hx hb dM_support_37 rfl (lv_at hl 3 rfl) ?_
        obtain ⟨S4, h⟩ := h
        obtain ⟨hp5, h⟩ := h
        refine mc_r (va_runV (As := [.int (I 9 (fM_latest S1 I J a1 x4).toNatClampNeg), .int a2]) (rest := [.int x3]) ⟨hx, hb, hml, hown, htb⟩ (C_M_descends l D ca ad S4 I J (I 9 (fM_latest S1 I J a1 x4).toNatClampNeg) a2 hp5) (cwV 2 htb (gd_v k3_142 k3_144 ks34 k1_8 k3_145) rfl rfl rfl (by decide +kernel) ⟨Nat.le_of_ble_eq_true rfl, Nat.le_of_ble_eq_true rfl⟩) (mPre_V hK hP hD hN rfl (mw_at (by decide) (ym_0 _ _ _ _))) rfl rfl hl.1 rfl (lv_room (Nat.le_of_ble_eq_true rfl)) dM_support_38 ⟨Nat.le_of_ble_eq_true rfl, Nat.le_of_ble_eq_true rfl⟩) hS (fun H locs hP hS => ?_)
        refine lv_if_eq (tgt := 54) hx hb dM_support_41 (by decide) (fun hc => ?_) (fun hc => ?_)
        · have h := h.1 hc
          refine lv_iconst (v := 0) hx hb dM_support_54 (by decide) ?_
          refine lv_iadd hx hb dM_support_55 ?_
          refine lv_istore_n (lv' := [(3, .int (x3 + 0)), (5, .int (fM_latest S1 I J a1 x4)), (0, .ref (ad 0)), (1, .int a1), (2, .int a2), (4, .int x4)]) hx hb dM_support_56 rfl hl (by decide) rfl (fun ls hl => ?_)
          refine lv_iinc (k := 5) (v := x4 + 1) (lv' := [(4, .int (x4 + 1)), (3, .int (x3 + 0)), (5, .int (fM_latest S1 I J a1 x4)), (0, .ref (ad 0)), (1, .int a1), (2, .int a2)]) hx hb dM_support_57 hl rfl (by rfl) (by decide) rfl (fun ls hl => ?_)
          refine lv_goto (tgt := 5) hx hb dM_support_60 (by decide) ?_
          rw [hK5] at h
          exact h _ _ _ hP hS (lv_sub hl [3, 4, 5, 1, 0] rfl)
        · have h := h.2 hc
          refine lv_aload_n hx hb dM_support_44 rfl (lv_at hl 1 rfl) ?_
          refine va_get (D := D) (ci := 6) (v := .ref (ad 1)) (C := RM) (T := TM) (N := 33) hx hb htb inM hown hK hP 0 (mw_at (by decide) (ym_0 _ _ _ _)) rfl 2 (by decide) (htb _ k2_174) (fun _ h9 => h9) rfl dM_support_45 ?_
          refine lv_iload hx hb dM_support_48 (lv_at hl 5 rfl) ?_
          obtain ⟨hn6, h⟩ := h
          refine mr_iald hx hb hK hP 1 0 (by decide) rfl rfl hn6 dM_support_50 ?_
          refine lv_goto (tgt := 55) hx hb dM_support_51 (by decide) ?_
          refine lv_iadd hx hb dM_support_55 ?_
          refine lv_istore_n (lv' := [(3, .int (x3 + (I 1 x4.toNatClampNeg))), (5, .int (fM_latest S1 I J a1 x4)), (0, .ref (ad 0)), (1, .int a1), (2, .int a2), (4, .int x4)]) hx hb dM_support_56 rfl hl (by decide) rfl (fun ls hl => ?_)
          refine lv_iinc (k := 5) (v := x4 + 1) (lv' := [(4, .int (x4 + 1)), (3, .int (x3 + (I 1 x4.toNatClampNeg))), (5, .int (fM_latest S1 I J a1 x4)), (0, .ref (ad 0)), (1, .int a1), (2, .int a2)]) hx hb dM_support_57 hl rfl (by rfl) (by decide) rfl (fun ls hl => ?_)
          refine lv_goto (tgt := 5) hx hb dM_support_60 (by decide) ?_
          rw [hK5] at h
          exact h _ _ _ hP hS (lv_sub hl [3, 4, 5, 1, 0] rfl)
  have h := P_M_support S I0 J0 a1 a2  hp K5 (fun r I' J' => r = fM_support S I0 J0 a1 a2 ∧ I' = I0 ∧ J' = J0) c5 ⟨rfl, rfl, rfl⟩
  unfold wp_M_support at h
  refine lv_iconst (v := 0) hx hb dM_support_0 (by decide) ?_
  refine lv_istore_n (lv' := [(3, .int 0), (0, .ref (ad 0)), (1, .int a1), (2, .int a2)]) hx hb dM_support_1 rfl hl (by decide) rfl (fun ls hl => ?_)
  refine lv_iconst (v := 0) hx hb dM_support_2 (by decide) ?_
  refine lv_istore (lv' := [(4, .int 0), (3, .int 0), (0, .ref (ad 0)), (1, .int a1), (2, .int a2)]) hx hb dM_support_3 hl (by decide) rfl (fun ls hl => ?_)
  rw [hK5] at h
  exact h _ _ _ hP hS (lv_sub hl [2, 3, 4, 1, 0] rfl)
def wp_M_head_20 (K20 : mI → mJ → Int32 → Int32 → Prop) (K35 : mI → mJ → Int32 → Int32 → Int32 → Int32 → Prop) (R : Int32 → mI → mJ → Prop) (I : mI) (J : mJ) (a1 : Int32) (x2 : Int32) (x3 : Int32) : Prop :=
  ((x3 = 0 → R x2 I J) ∧ (¬ (x3 = 0) → K35 I J x2 (-1) (-1) (x2 + 1)))
def wp_M_head_35 (K20 : mI → mJ → Int32 → Int32 → Prop) (K35 : mI → mJ → Int32 → Int32 → Int32 → Int32 → Prop) (R : Int32 → mI → mJ → Prop) (I : mI) (J : mJ) (a1 : Int32) (x2 : Int32) (x4 : Int32) (x5 : Int32) (x6 : Int32) : Prop :=
  (((I 0 4) ≤ x6 → ((x4 < 0 → K20 I J x2 0) ∧ (¬ (x4 < 0) → K20 I J x4 1))) ∧ (¬ ((I 0 4) ≤ x6) → (vp_in ((60 * a1) + x6) 180 ∧ (((I 14 ((60 * a1) + x6).toNatClampNeg) = 0 → K35 I J x2 x4 x5 (x6 + 1)) ∧ (¬ ((I 14 ((60 * a1) + x6).toNatClampNeg) = 0) → (vp_in x6 60 ∧ ((¬ ((I 2 x6.toNatClampNeg) = x2) → K35 I J x2 x4 x5 (x6 + 1)) ∧ ((I 2 x6.toNatClampNeg) = x2 → (∃ (S5 : mI), (pM_support S5 I J a1 x6 ∧ (((fM_support S5 I J a1 x6) ≤ x5 → (((fM_support S5 I J a1 x6) ≤ x5 → K35 I J x2 x4 x5 (x6 + 1)) ∧ (¬ ((fM_support S5 I J a1 x6) ≤ x5) → K35 I J x2 x4 (fM_support S5 I J a1 x6) (x6 + 1)))) ∧ (¬ ((fM_support S5 I J a1 x6) ≤ x5) → (((fM_support S5 I J a1 x6) ≤ x5 → K35 I J x2 x6 x5 (x6 + 1)) ∧ (¬ ((fM_support S5 I J a1 x6) ≤ x5) → K35 I J x2 x6 (fM_support S5 I J a1 x6) (x6 + 1)))))))))))))))
def wp_M_head (K20 : mI → mJ → Int32 → Int32 → Prop) (K35 : mI → mJ → Int32 → Int32 → Int32 → Int32 → Prop) (R : Int32 → mI → mJ → Prop) (I0 : mI) (J0 : mJ) (a1 : Int32) : Prop :=
  ((¬ ((fM_isNode I0 J0 a1) = 0) → (vp_in (2 * a1) 6 ∧ K20 I0 J0 (I0 17 (2 * a1).toNatClampNeg) 1)) ∧ ((fM_isNode I0 J0 a1) = 0 → R (-1) I0 J0))
theorem P_M_head (S : mI) (I0 : mI) (J0 : mJ) (a1 : Int32)  (hp : pY1 S I0 J0 a1) (K20 : mI → mJ → Int32 → Int32 → Prop) (K35 : mI → mJ → Int32 → Int32 → Int32 → Int32 → Prop) (R : Int32 → mI → mJ → Prop) (c20 : ∀ (I : mI) (J : mJ) (x2 : Int32) (x3 : Int32), wp_M_head_20 K20 K35 R I J a1 x2 x3 → K20 I J x2 x3) (c35 : ∀ (I : mI) (J : mJ) (x2 : Int32) (x4 : Int32) (x5 : Int32) (x6 : Int32), wp_M_head_35 K20 K35 R I J a1 x2 x4 x5 x6 → K35 I J x2 x4 x5 x6) (hR : R (fM_head S I0 J0 a1) I0 J0) : wp_M_head K20 K35 R I0 J0 a1 := by
  have hY : YR S I0 := hp
  have hb := hY.1.b
  unfold fM_head rHed at hR
  unfold wp_M_head
  refine ⟨fun h => ?_, fun h => ?_⟩
  · have h1 : iNd a1 := nn (fun q => h (isNm.mpr q))
    rw [if_neg (fun q => q h1)] at hR
    obtain ⟨n, hn, rfl⟩ := iNd_n h1
    rw [cN_nI (by omega)] at hR
    have hN := hY.1.n hn (k := 0) (by omega)
    rw [show 2 * n + 0 = 2 * n from rfl] at hN
    rw [ix2, ic (by omega), hY.r (j := 17) (by omega) (by omega), hN.2.2.1]
    refine ⟨iin (by omega) (by omega), ?_⟩
    have inner : ∀ a, a < zBc S → (zKid S n a = none → K20 I0 J0 (nI a) 0) → (∀ c, zKid S n a = some c → K20 I0 J0 (nI c) 1) → ∀ m c, c + m = zBc S → a < c → K35 I0 J0 (nI a) (oI (zKf S n a c).1) (zKf S n a c).2 (nI c) := by
      intro a ha k0 k1 m
      induction m with
      | zero =>
        intro c hc hac
        have hc : c = zBc S := by omega
        subst hc
        apply c35
        unfold wp_M_head_35
        rw [hY.bc]
        refine ⟨fun _ => ?_, fun h => absurd (nI_le (Nat.le_refl _) (by omega)) h⟩
        cases hz : (zKf S n a (zBc S)).1 with
        | none => exact ⟨fun _ => k0 hz, fun z => absurd oI_neg z⟩
        | some c =>
          have hl := zKf_lt S n a _ c hz
          exact ⟨fun z => absurd z (oI_nn (by omega)), fun _ => k1 c hz⟩
      | succ m ih =>
        intro c hc hac
        have hi := ih (c + 1) (by omega) (by omega)
        have hcc : c < zBc S := by omega
        apply c35
        unfold wp_M_head_35 fM_support
        rw [hY.bc, ix60, ic (n := 60 * n + c) (by omega), ic (n := c) (by omega), nI_1, hY.r (j := 14) (by omega) (by omega), hY.r (j := 2) (by omega) (by omega), kn_0, cN_nI (n := n) (by omega), cN_nI (n := c) (by omega)]
        have no : ¬ (a < c ∧ zKn S n c = true ∧ S 2 c = nI a ∧ (zKf S n a c).2 < zSup S n c) → K35 I0 J0 (nI a) (oI (zKf S n a c).1) (zKf S n a c).2 (nI (c + 1)) := fun z => by
          rw [show zKf S n a (c + 1) = zKf S n a c from by simp only [zKf]; rw [if_neg z]] at hi
          exact hi
        refine ⟨fun h => absurd h (nI_ge (by omega) (by omega)), fun _ => ⟨iin (by omega) (by omega), fun h => no (fun z => by rw [h] at z; exact absurd z.2.1 (by decide)), fun h2 => ⟨iin (by omega) (by omega), fun h => no (fun z => h z.2.2.1), fun h1 => ⟨S, ⟨hY, ⟨n, hn, rfl⟩, ⟨c, by omega, rfl⟩⟩, fun h => ⟨fun _ => no (fun z => Int32.not_lt.mpr h z.2.2.2), fun z => absurd h z⟩, fun h => ⟨fun z => absurd z h, fun _ => ?_⟩⟩⟩⟩⟩
        rw [show zKf S n a (c + 1) = (some c, zSup S n c) from by simp only [zKf]; rw [if_pos ⟨hac, nf h2, h1, Int32.not_le.mp h⟩]] at hi
        exact hi
    have stop : ∀ a, R (nI a) I0 J0 → K20 I0 J0 (nI a) 0 := fun a hr => by
      apply c20
      unfold wp_M_head_20
      exact ⟨fun _ => hr, fun z => absurd rfl z⟩
    have key : ∀ m a, zBc S ≤ a + m → a < zBc S → R (nI (zHd S n m a)) I0 J0 → K20 I0 J0 (nI a) 1 := by
      intro m
      induction m with
      | zero => intro a h1 h2; omega
      | succ m ih =>
        intro a h1 h2 hr
        simp only [zHd] at hr
        apply c20
        unfold wp_M_head_20
        refine ⟨fun z => absurd z (by decide), fun _ => ?_⟩
        have := inner a h2 (fun hz => ?_) (fun c hz => ?_) (zBc S - (a + 1)) (a + 1) (by omega) (by omega)
        · rw [zKf_0 S n a (a + 1) (Nat.le_refl _)] at this
          rw [nI_1]
          exact this
        · rw [hz] at hr
          exact stop a hr
        · rw [hz] at hr
          have g1 := zKf_gt S n a _ c hz
          have g2 := zKf_lt S n a _ c hz
          exact ih c (by omega) g2 hr
    exact key 60 _ (by omega) hN.2.2.2 hR
  · rw [if_pos (isNm.mp h)] at hR
    exact hR
set_option maxHeartbeats 4000000 in
set_option maxRecDepth 100000 in
theorem C_M_head (l : Launch) (D : va_G) (ca : Nat → Nat) (ad : Nat → Nat) (S : mI) (I0 : mI) (J0 : mJ) (a1 : Int32)  (hp : pY1 S I0 J0 a1) : Met l yM_head wM_head ({ frames := 2, cells := 0, slots := 0, locals := 49 } : Room) (va_Pc [.ref (ad 0), .int a1] (mPre D vwCl (xty ca) 23 ad (ymk ca ad) nL I0 J0)) (mQi D vwCl 23 ad (ymk ca ad) (fun r I' J' => r = fM_head S I0 J0 a1 ∧ I' = I0 ∧ J' = J0)) 0 0 (mA 23 ad) := by
  refine Met.ofW (cc := cM_head) (maxL := 8) (ret := (some .int)) (by decide) rfl ?_
  intro p e s m args below meth c s₁ B hml hv
  obtain ⟨rfl, hP, hK, hD0, hN⟩ := hv
  have hx := B.exec
  have hb := B.bytes
  have hr := B.returns
  have htb : ∀ w ∈ wb, w.before _ s = true := fun w h => atoms_spec (ws := wM_head) B.pre w (List.mem_cons_of_mem _ h)
  have hown : s.vm.findClass RM = some m.cls := findClass_of_methodNamed B.named
  have hlk := B.notSynchronized
  have hD := mw_Dm hD0
  have hS : va_S (mA 23 ad) s.heap s.heap [] := va_S.rf
  have hl := lv_entry ([.ref (ad 0), .int a1]) (n := 8) (Nat.le_of_ble_eq_true rfl)
  rw [lg_entry_eq]
  generalize (lg_sl ([.ref (ad 0), .int a1]) ++ List.replicate (8 - (lg_sl ([.ref (ad 0), .int a1])).length) Slot.unset).toArray = ls at hl ⊢
  have hl : lv_has ls 8 [(0, .ref (ad 0)), (1, .int a1)] := hl
  obtain ⟨K20, hK20⟩ : ∃ K : mI → mJ → Int32 → Int32 → Prop, K = (fun I J x2 x3 => ∀ (H : Heap) (locs : List Loc) (ls : Array Slot), va_P D vwCl (mw 23 ad (ymk ca ad) I J) H → va_S (mA 23 ad) s.heap H locs → lv_has ls 8 [(0, .ref (ad 0)), (1, .int a1), (2, .int x2), (3, .int x3)] → W p l e (headSpec wM_head ({ frames := 2, cells := 0, slots := 0, locals := 49 } : Room)).room s m (([.ref (ad 0), .int a1] : List Value).toArray) below meth c H locs 0 0 (MQ below (mQi D vwCl 23 ad (ymk ca ad) (fun r I' J' => r = fM_head S I0 J0 a1 ∧ I' = I0 ∧ J' = J0)) (([.ref (ad 0), .int a1] : List Value).toArray) s 0 0 (mA 23 ad)) (F0 m 20 ls [])) := ⟨_, rfl⟩
  obtain ⟨K35, hK35⟩ : ∃ K : mI → mJ → Int32 → Int32 → Int32 → Int32 → Prop, K = (fun I J x2 x4 x5 x6 => ∀ (H : Heap) (locs : List Loc) (ls : Array Slot), va_P D vwCl (mw 23 ad (ymk ca ad) I J) H → va_S (mA 23 ad) s.heap H locs → lv_has ls 8 [(0, .ref (ad 0)), (1, .int a1), (2, .int x2), (4, .int x4), (5, .int x5), (6, .int x6)] → W p l e (headSpec wM_head ({ frames := 2, cells := 0, slots := 0, locals := 49 } : Room)).room s m (([.ref (ad 0), .int a1] : List Value).toArray) below meth c H locs 0 0 (MQ below (mQi D vwCl 23 ad (ymk ca ad) (fun r I' J' => r = fM_head S I0 J0 a1 ∧ I' = I0 ∧ J' = J0)) (([.ref (ad 0), .int a1] : List Value).toArray) s 0 0 (mA 23 ad)) (F0 m 35 ls [])) := ⟨_, rfl⟩
  have c20 : ∀ (I : mI) (J : mJ) (x2 : Int32) (x3 : Int32), wp_M_head_20 K20 K35 (fun r I' J' => r = fM_head S I0 J0 a1 ∧ I' = I0 ∧ J' = J0) I J a1 x2 x3 → K20 I J x2 x3 := by
    intro I J x2 x3 h
    rw [hK20]
    intro H locs ls hP hS hl
    unfold wp_M_head_20 at h
    refine lv_iload_n hx hb dM_head_20 rfl (lv_at hl 3 rfl) ?_
    refine lv_if_eq (tgt := 142) hx hb dM_head_21 (by decide) (fun hc => ?_) (fun hc => ?_)
    · have h := h.1 hc
      refine lv_iload_n hx hb dM_head_142 rfl (lv_at hl 2 rfl) ?_
      exact me_i hx hb hr hlk hP hS h dM_head_143
    · have h := h.2 hc
      refine lv_iconst (v := (-1)) hx hb dM_head_24 (by decide) ?_
      refine lv_istore (lv' := [(4, .int (-1)), (0, .ref (ad 0)), (1, .int a1), (2, .int x2), (3, .int x3)]) hx hb dM_head_25 hl (by decide) rfl (fun ls hl => ?_)
      refine lv_iconst (v := (-1)) hx hb dM_head_27 (by decide) ?_
      refine lv_istore (lv' := [(5, .int (-1)), (4, .int (-1)), (0, .ref (ad 0)), (1, .int a1), (2, .int x2), (3, .int x3)]) hx hb dM_head_28 hl (by decide) rfl (fun ls hl => ?_)
      refine lv_iload_n hx hb dM_head_30 rfl (lv_at hl 4 rfl) ?_
      refine lv_iconst (v := 1) hx hb dM_head_31 (by decide) ?_
      refine lv_iadd hx hb dM_head_32 ?_
      refine lv_istore (lv' := [(6, .int (x2 + 1)), (5, .int (-1)), (4, .int (-1)), (0, .ref (ad 0)), (1, .int a1), (2, .int x2), (3, .int x3)]) hx hb dM_head_33 hl (by decide) rfl (fun ls hl => ?_)
      rw [hK35] at h
      exact h _ _ _ hP hS (lv_sub hl [3, 4, 5, 2, 1, 0] rfl)
  have c35 : ∀ (I : mI) (J : mJ) (x2 : Int32) (x4 : Int32) (x5 : Int32) (x6 : Int32), wp_M_head_35 K20 K35 (fun r I' J' => r = fM_head S I0 J0 a1 ∧ I' = I0 ∧ J' = J0) I J a1 x2 x4 x5 x6 → K35 I J x2 x4 x5 x6 := by
    intro I J x2 x4 x5 x6 h
    rw [hK35]
    intro H locs ls hP hS hl
    unfold wp_M_head_35 at h
    refine lv_iload hx hb dM_head_35 (lv_at hl 5 rfl) ?_
    refine lv_aload_n hx hb dM_head_37 rfl (lv_at hl 0 rfl) ?_
    refine va_get (D := D) (ci := 6) (v := .int (I 0 4)) (C := RM) (T := TM) (N := 33) hx hb htb inM hown hK hP 0 (mw_at (by decide) (ym_0 _ _ _ _)) rfl 4 (by decide) (htb _ k2_176) (fun _ h9 => h9) rfl dM_head_38 ?_
    refine lv_icmp_ge (tgt := 117) hx hb dM_head_41 (by decide) (fun hc => ?_) (fun hc => ?_)
    · have h := h.1 hc
      refine lv_iload hx hb dM_head_117 (lv_at hl 3 rfl) ?_
      refine lv_if_lt (tgt := 126) hx hb dM_head_119 (by decide) (fun hc => ?_) (fun hc => ?_)
      · have h := h.1 hc
        refine lv_iconst (v := 0) hx hb dM_head_126 (by decide) ?_
        refine lv_istore_n (lv' := [(3, .int 0), (0, .ref (ad 0)), (1, .int a1), (2, .int x2), (4, .int x4), (5, .int x5), (6, .int x6)]) hx hb dM_head_127 rfl hl (by decide) rfl (fun ls hl => ?_)
        refine lv_iload_n hx hb dM_head_128 rfl (lv_at hl 0 rfl) ?_
        refine lv_if_eq (tgt := 137) hx hb dM_head_129 (by decide) (fun hc => ?_) (fun hc => ?_)
        · skip
          refine lv_iload_n hx hb dM_head_137 rfl (lv_at hl 3 rfl) ?_
          refine lv_istore_n (lv' := [(2, .int x2), (3, .int 0), (0, .ref (ad 0)), (1, .int a1), (4, .int x4), (5, .int x5), (6, .int x6)]) hx hb dM_head_138 rfl hl (by decide) rfl (fun ls hl => ?_)
          refine lv_goto (tgt := 20) hx hb dM_head_139 (by decide) ?_
          rw [hK20] at h
          exact h _ _ _ hP hS (lv_sub hl [2, 3, 0, 1] rfl)
        · first | exact absurd hc (by decide) | exact absurd (by decide) hc
      · have h := h.2 hc
        refine lv_iconst (v := 1) hx hb dM_head_122 (by decide) ?_
        refine lv_goto (tgt := 127) hx hb dM_head_123 (by decide) ?_
        refine lv_istore_n (lv' := [(3, .int 1), (0, .ref (ad 0)), (1, .int a1), (2, .int x2), (4, .int x4), (5, .int x5), (6, .int x6)]) hx hb dM_head_127 rfl hl (by decide) rfl (fun ls hl => ?_)
        refine lv_iload_n hx hb dM_head_128 rfl (lv_at hl 0 rfl) ?_
        refine lv_if_eq (tgt := 137) hx hb dM_head_129 (by decide) (fun hc => ?_) (fun hc => ?_)
        · first | exact absurd hc (by decide) | exact absurd (by decide) hc
        · skip
          refine lv_iload hx hb dM_head_132 (lv_at hl 4 rfl) ?_
          refine lv_goto (tgt := 138) hx hb dM_head_134 (by decide) ?_
          refine lv_istore_n (lv' := [(2, .int x4), (3, .int 1), (0, .ref (ad 0)), (1, .int a1), (4, .int x4), (5, .int x5), (6, .int x6)]) hx hb dM_head_138 rfl hl (by decide) rfl (fun ls hl => ?_)
          refine lv_goto (tgt := 20) hx hb dM_head_139 (by decide) ?_
          rw [hK20] at h
          exact h _ _ _ hP hS (lv_sub hl [2, 3, 0, 1] rfl)
    · have h := h.2 hc
      refine lv_aload_n hx hb dM_head_44 rfl (lv_at hl 0 rfl) ?_
      refine va_get (D := D) (ci := 6) (v := .ref (ad 14)) (C := RM) (T := TM) (N := 33) hx hb htb inM hown hK hP 0 (mw_at (by decide) (ym_0 _ _ _ _)) rfl 19 (by decide) (htb _ k2_191) (fun _ h9 => h9) rfl dM_head_45 ?_
      refine lv_bipush (v := 60) hx hb dM_head_48 (by decide) ?_
      refine lv_iload_n hx hb dM_head_50 rfl (lv_at hl 1 rfl) ?_
      refine lv_imul hx hb dM_head_51 ?_
      refine lv_iload hx hb dM_head_52 (lv_at hl 5 rfl) ?_
      refine lv_iadd hx hb dM_head_54 ?_
      obtain ⟨hn3, h⟩ := h
      refine mr_zald hx hb hK hP 14 1 (by decide) rfl rfl hn3 dM_head_55 ?_
      refine lv_if_eq (tgt := 111) hx hb dM_head_56 (by decide) (fun hc => ?_) (fun hc => ?_)
      · have h := h.1 hc
        refine lv_iinc (k := 5) (v := x6 + 1) (lv' := [(6, .int (x6 + 1)), (0, .ref (ad 0)), (1, .int a1), (2, .int x2), (4, .int x4), (5, .int x5)]) hx hb dM_head_111 hl rfl (by rfl) (by decide) rfl (fun ls hl => ?_)
        refine lv_goto (tgt := 35) hx hb dM_head_114 (by decide) ?_
        rw [hK35] at h
        exact h _ _ _ hP hS (lv_sub hl [1, 2, 3, 4, 5, 0] rfl)
      · have h := h.2 hc
        refine lv_aload_n hx hb dM_head_59 rfl (lv_at hl 0 rfl) ?_
        refine va_get (D := D) (ci := 6) (v := .ref (ad 2)) (C := RM) (T := TM) (N := 33) hx hb htb inM hown hK hP 0 (mw_at (by decide) (ym_0 _ _ _ _)) rfl 5 (by decide) (htb _ k2_177) (fun _ h9 => h9) rfl dM_head_60 ?_
        refine lv_iload hx hb dM_head_63 (lv_at hl 5 rfl) ?_
        obtain ⟨hn4, h⟩ := h
        refine mr_iald hx hb hK hP 2 0 (by decide) rfl rfl hn4 dM_head_65 ?_
        refine lv_iload_n hx hb dM_head_66 rfl (lv_at hl 2 rfl) ?_
        refine lv_icmp_ne (tgt := 111) hx hb dM_head_67 (by decide) (fun hc => ?_) (fun hc => ?_)
        · have h := h.1 hc
          refine lv_iinc (k := 5) (v := x6 + 1) (lv' := [(6, .int (x6 + 1)), (0, .ref (ad 0)), (1, .int a1), (2, .int x2), (4, .int x4), (5, .int x5)]) hx hb dM_head_111 hl rfl (by rfl) (by decide) rfl (fun ls hl => ?_)
          refine lv_goto (tgt := 35) hx hb dM_head_114 (by decide) ?_
          rw [hK35] at h
          exact h _ _ _ hP hS (lv_sub hl [1, 2, 3, 4, 5, 0] rfl)
        · have h := h.2 hc
          refine lv_aload_n hx hb dM_head_70 rfl (lv_at hl 0 rfl) ?_
          refine lv_iload_n hx hb dM_head_71 rfl (lv_at hl 1 rfl) ?_
          refine lv_iload hx hb dM_head_72 (lv_at hl 5 rfl) ?_
          obtain ⟨S5, h⟩ := h
          obtain ⟨hp6, h⟩ := h
          refine mc_r (va_runV (As := [.int a1, .int x6]) (rest := []) ⟨hx, hb, hml, hown, htb⟩ (C_M_support l D ca ad S5 I J a1 x6 hp6) (cwV 2 htb (gd_v k3_158 k3_160 ks35 k1_8 k3_161) rfl rfl rfl (by decide +kernel) ⟨Nat.le_of_ble_eq_true rfl, Nat.le_of_ble_eq_true rfl⟩) (mPre_V hK hP hD hN rfl (mw_at (by decide) (ym_0 _ _ _ _))) rfl rfl hl.1 rfl (lv_room (Nat.le_of_ble_eq_true rfl)) dM_head_74 ⟨Nat.le_of_ble_eq_true rfl, Nat.le_of_ble_eq_true rfl⟩) hS (fun H locs hP hS => ?_)
          refine lv_istore (lv' := [(7, .int (fM_support S5 I J a1 x6)), (0, .ref (ad 0)), (1, .int a1), (2, .int x2), (4, .int x4), (5, .int x5), (6, .int x6)]) hx hb dM_head_77 hl (by decide) rfl (fun ls hl => ?_)
          refine lv_iload hx hb dM_head_79 (lv_at hl 0 rfl) ?_
          refine lv_iload hx hb dM_head_81 (lv_at hl 5 rfl) ?_
          refine lv_icmp_le (tgt := 91) hx hb dM_head_83 (by decide) (fun hc => ?_) (fun hc => ?_)
          · have h := h.1 hc
            refine lv_iload hx hb dM_head_91 (lv_at hl 4 rfl) ?_
            refine lv_istore (lv' := [(4, .int x4), (7, .int (fM_support S5 I J a1 x6)), (0, .ref (ad 0)), (1, .int a1), (2, .int x2), (5, .int x5), (6, .int x6)]) hx hb dM_head_93 hl (by decide) rfl (fun ls hl => ?_)
            refine lv_iload hx hb dM_head_95 (lv_at hl 1 rfl) ?_
            refine lv_iload hx hb dM_head_97 (lv_at hl 5 rfl) ?_
            refine lv_icmp_le (tgt := 107) hx hb dM_head_99 (by decide) (fun hc => ?_) (fun hc => ?_)
            · have h := h.1 hc
              refine lv_iload hx hb dM_head_107 (lv_at hl 5 rfl) ?_
              refine lv_istore (lv' := [(5, .int x5), (4, .int x4), (7, .int (fM_support S5 I J a1 x6)), (0, .ref (ad 0)), (1, .int a1), (2, .int x2), (6, .int x6)]) hx hb dM_head_109 hl (by decide) rfl (fun ls hl => ?_)
              refine lv_iinc (k := 6) (v := x6 + 1) (lv' := [(6, .int (x6 + 1)), (5, .int x5), (4, .int x4), (7, .int (fM_support S5 I J a1 x6)), (0, .ref (ad 0)), (1, .int a1), (2, .int x2)]) hx hb dM_head_111 hl rfl (by rfl) (by decide) rfl (fun ls hl => ?_)
              refine lv_goto (tgt := 35) hx hb dM_head_114 (by decide) ?_
              rw [hK35] at h
              exact h _ _ _ hP hS (lv_sub hl [4, 5, 6, 2, 1, 0] rfl)
            · have h := h.2 hc
              refine lv_iload hx hb dM_head_102 (lv_at hl 1 rfl) ?_
              refine lv_goto (tgt := 109) hx hb dM_head_104 (by decide) ?_
              refine lv_istore (lv' := [(5, .int (fM_support S5 I J a1 x6)), (4, .int x4), (7, .int (fM_support S5 I J a1 x6)), (0, .ref (ad 0)), (1, .int a1), (2, .int x2), (6, .int x6)]) hx hb dM_head_109 hl (by decide) rfl (fun ls hl => ?_)
              refine lv_iinc (k := 6) (v := x6 + 1) (lv' := [(6, .int (x6 + 1)), (5, .int (fM_support S5 I J a1 x6)), (4, .int x4), (7, .int (fM_support S5 I J a1 x6)), (0, .ref (ad 0)), (1, .int a1), (2, .int x2)]) hx hb dM_head_111 hl rfl (by rfl) (by decide) rfl (fun ls hl => ?_)
              refine lv_goto (tgt := 35) hx hb dM_head_114 (by decide) ?_
              rw [hK35] at h
              exact h _ _ _ hP hS (lv_sub hl [4, 5, 6, 2, 1, 0] rfl)
          · have h := h.2 hc
            refine lv_iload hx hb dM_head_86 (lv_at hl 6 rfl) ?_
            refine lv_goto (tgt := 93) hx hb dM_head_88 (by decide) ?_
            refine lv_istore (lv' := [(4, .int x6), (7, .int (fM_support S5 I J a1 x6)), (0, .ref (ad 0)), (1, .int a1), (2, .int x2), (5, .int x5), (6, .int x6)]) hx hb dM_head_93 hl (by decide) rfl (fun ls hl => ?_)
            refine lv_iload hx hb dM_head_95 (lv_at hl 1 rfl) ?_
            refine lv_iload hx hb dM_head_97 (lv_at hl 5 rfl) ?_
            refine lv_icmp_le (tgt := 107) hx hb dM_head_99 (by decide) (fun hc => ?_) (fun hc => ?_)
            · have h := h.1 hc
              refine lv_iload hx hb dM_head_107 (lv_at hl 5 rfl) ?_
              refine lv_istore (lv' := [(5, .int x5), (4, .int x6), (7, .int (fM_support S5 I J a1 x6)), (0, .ref (ad 0)), (1, .int a1), (2, .int x2), (6, .int x6)]) hx hb dM_head_109 hl (by decide) rfl (fun ls hl => ?_)
              refine lv_iinc (k := 6) (v := x6 + 1) (lv' := [(6, .int (x6 + 1)), (5, .int x5), (4, .int x6), (7, .int (fM_support S5 I J a1 x6)), (0, .ref (ad 0)), (1, .int a1), (2, .int x2)]) hx hb dM_head_111 hl rfl (by rfl) (by decide) rfl (fun ls hl => ?_)
              refine lv_goto (tgt := 35) hx hb dM_head_114 (by decide) ?_
              rw [hK35] at h
              exact h _ _ _ hP hS (lv_sub hl [4, 5, 6, 2, 1, 0] rfl)
            · have h := h.2 hc
              refine lv_iload hx hb dM_head_102 (lv_at hl 1 rfl) ?_
              refine lv_goto (tgt := 109) hx hb dM_head_104 (by decide) ?_
              refine lv_istore (lv' := [(5, .int (fM_support S5 I J a1 x6)), (4, .int x6), (7, .int (fM_support S5 I J a1 x6)), (0, .ref (ad 0)), (1, .int a1), (2, .int x2), (6, .int x6)]) hx hb dM_head_109 hl (by decide) rfl (fun ls hl => ?_)
              refine lv_iinc (k := 6) (v := x6 + 1) (lv' := [(6, .int (x6 + 1)), (5, .int (fM_support S5 I J a1 x6)), (4, .int x6), (7, .int (fM_support S5 I J a1 x6)), (0, .ref (ad 0)), (1, .int a1), (2, .int x2)]) hx hb dM_head_111 hl rfl (by rfl) (by decide) rfl (fun ls hl => ?_)
              refine lv_goto (tgt := 35) hx hb dM_head_114 (by decide) ?_
              rw [hK35] at h
              exact h _ _ _ hP hS (lv_sub hl [4, 5, 6, 2, 1, 0] rfl)
  have h := P_M_head S I0 J0 a1  hp K20 K35 (fun r I' J' => r = fM_head S I0 J0 a1 ∧ I' = I0 ∧ J' = J0) c20 c35 ⟨rfl, rfl, rfl⟩
  unfold wp_M_head at h
  refine lv_iload_n hx hb dM_head_0 rfl (lv_at hl 1 rfl) ?_
  refine mc_r (va_runS (As := [.int a1]) (rest := []) ⟨hx, hb, hml, hown, htb⟩ (C_M_isNode l D ca ad I0 J0 a1) (va_cwS 1 htb (gd_s k3_135 k3_136 k1_8 k3_137) rfl rfl rfl (by decide +kernel) ⟨Nat.le_of_ble_eq_true rfl, Nat.le_of_ble_eq_true rfl⟩) (mPre_S hK hP hD hN) rfl rfl hl.1 rfl (lv_room (Nat.le_of_ble_eq_true rfl)) dM_head_1 ⟨Nat.le_of_ble_eq_true rfl, Nat.le_of_ble_eq_true rfl⟩) hS (fun H locs hP hS => ?_)
  refine lv_if_ne (tgt := 9) hx hb dM_head_4 (by decide) (fun hc => ?_) (fun hc => ?_)
  · have h := h.1 hc
    refine lv_aload_n hx hb dM_head_9 rfl (lv_at hl 0 rfl) ?_
    refine va_get (D := D) (ci := 6) (v := .ref (ad 17)) (C := RM) (T := TM) (N := 33) hx hb htb inM hown hK hP 0 (mw_at (by decide) (ym_0 _ _ _ _)) rfl 22 (by decide) (htb _ k2_194) (fun _ h9 => h9) rfl dM_head_10 ?_
    refine lv_iconst (v := 2) hx hb dM_head_13 (by decide) ?_
    refine lv_iload_n hx hb dM_head_14 rfl (lv_at hl 1 rfl) ?_
    refine lv_imul hx hb dM_head_15 ?_
    obtain ⟨hn2, h⟩ := h
    refine mr_iald hx hb hK hP 17 0 (by decide) rfl rfl hn2 dM_head_16 ?_
    refine lv_istore_n (lv' := [(2, .int (I0 17 (2 * a1).toNatClampNeg)), (0, .ref (ad 0)), (1, .int a1)]) hx hb dM_head_17 rfl hl (by decide) rfl (fun ls hl => ?_)
    refine lv_iconst (v := 1) hx hb dM_head_18 (by decide) ?_
    refine lv_istore_n (lv' := [(3, .int 1), (2, .int (I0 17 (2 * a1).toNatClampNeg)), (0, .ref (ad 0)), (1, .int a1)]) hx hb dM_head_19 rfl hl (by decide) rfl (fun ls hl => ?_)
    rw [hK20] at h
    exact h _ _ _ hP hS (lv_sub hl [2, 3, 1, 0] rfl)
  · have h := h.2 hc
    refine lv_iconst (v := (-1)) hx hb dM_head_7 (by decide) ?_
    exact me_i hx hb hr hlk hP hS h dM_head_8
def wp_M_block (R : Int32 → mI → mJ → Prop) (I0 : mI) (J0 : mJ) (a1 : Int32) (a2 : Int32) : Prop :=
  ((¬ ((fM_isBlock I0 J0 a1) = 0) → ((a2 ≤ 3 → ((a2 = 0 → (vp_in a1 60 ∧ R (I0 2 a1.toNatClampNeg) I0 J0)) ∧ (a2 = 1 → (vp_in a1 60 ∧ R (I0 3 a1.toNatClampNeg) I0 J0)) ∧ (a2 = 2 → ((¬ (a1 = 0) → (vp_in a1 60 ∧ (¬ (I0 0 0) = 0 ∧ R ((I0 3 a1.toNatClampNeg) - (I0 3 a1.toNatClampNeg) / (I0 0 0) * (I0 0 0)) I0 J0))) ∧ (a1 = 0 → R 0 I0 J0))) ∧ (a2 = 3 → (vp_in a1 60 ∧ R (I0 4 a1.toNatClampNeg) I0 J0)) ∧ (a2 = 4 → R (I0 0 28) I0 J0) ∧ (a2 = 5 → R (I0 0 29) I0 J0) ∧ (a2 = 6 → R (I0 0 30) I0 J0) ∧ (a2 = 7 → R (I0 0 31) I0 J0) ∧ (¬ a2 = 0 ∧ ¬ a2 = 1 ∧ ¬ a2 = 2 ∧ ¬ a2 = 3 ∧ ¬ a2 = 4 ∧ ¬ a2 = 5 ∧ ¬ a2 = 6 ∧ ¬ a2 = 7 → R (-1) I0 J0))) ∧ (¬ (a2 ≤ 3) → (∃ (S7 : mI), (pM_make S7 I0 J0 a1 ∧ (∀ (I10 : mI) (J11 : mJ), qM_make S7 I0 J0 a1 I10 J11 → ((a2 = 0 → (vp_in a1 60 ∧ R (I10 2 a1.toNatClampNeg) I10 J11)) ∧ (a2 = 1 → (vp_in a1 60 ∧ R (I10 3 a1.toNatClampNeg) I10 J11)) ∧ (a2 = 2 → ((¬ (a1 = 0) → (vp_in a1 60 ∧ (¬ (I10 0 0) = 0 ∧ R ((I10 3 a1.toNatClampNeg) - (I10 3 a1.toNatClampNeg) / (I10 0 0) * (I10 0 0)) I10 J11))) ∧ (a1 = 0 → R 0 I10 J11))) ∧ (a2 = 3 → (vp_in a1 60 ∧ R (I10 4 a1.toNatClampNeg) I10 J11)) ∧ (a2 = 4 → R (I10 0 28) I10 J11) ∧ (a2 = 5 → R (I10 0 29) I10 J11) ∧ (a2 = 6 → R (I10 0 30) I10 J11) ∧ (a2 = 7 → R (I10 0 31) I10 J11) ∧ (¬ a2 = 0 ∧ ¬ a2 = 1 ∧ ¬ a2 = 2 ∧ ¬ a2 = 3 ∧ ¬ a2 = 4 ∧ ¬ a2 = 5 ∧ ¬ a2 = 6 ∧ ¬ a2 = 7 → R (-1) I10 J11)))))))) ∧ ((fM_isBlock I0 J0 a1) = 0 → R (-1) I0 J0))
theorem P_M_block (S : mI) (I0 : mI) (J0 : mJ) (a1 : Int32) (a2 : Int32)  (hp : pY2 S I0 J0 a1 a2)  (R : Int32 → mI → mJ → Prop)  (hR : ∀ (r : Int32) (I' : mI) (J' : mJ), qM_block S I0 J0 a1 a2 r I' J' → R r I' J') : wp_M_block R I0 J0 a1 a2 := by
  have hY : YR S I0 := hp
  have hb := hY.1.b
  have hR : ∀ I' J', RY S I' → R (rBlk S a1 a2) I' J' := fun I' J' h => hR _ I' J' ⟨rfl, h⟩
  unfold rBlk at hR
  unfold wp_M_block
  refine ⟨fun h => ?_, fun h => ?_⟩
  · have h1 : iBl S a1 := nn (fun q => h (hY.isB.mpr q))
    rw [if_neg (fun q => q h1)] at hR
    obtain ⟨n, hn, rfl⟩ := hY.1.iB h1
    rw [cN_nI (by omega)] at hR
    have hB := hY.1.2.1 n hn
    have hin : vp_in (nI n) 60 := iin (by omega) (by omega)
    have n0 : nI n = 0 → n = 0 := fun e => by
      rcases Nat.eq_zero_or_pos n with z | z
      · exact z
      · exact absurd e (nI_ne0 z (by omega))
    refine ⟨fun h3 => ?_, fun h3 => ?_⟩
    · have hR := hR I0 J0 hY.2
      rw [ic (n := n) (by omega), hY.r (j := 2) (by omega) (by omega), hY.r (j := 3) (by omega) (by omega), hY.r (j := 4) (by omega) (by omega), hY.nv, hB.1, pk_rem (by omega) (by omega) (by omega)]
      rw [hB.1] at hR
      refine ⟨fun hw => ?_, fun hw => ?_, fun hw => ?_, fun hw => ?_, fun hw => ?_, fun hw => ?_, fun hw => ?_, fun hw => ?_, fun hw => ?_⟩
      · subst hw; rw [if_pos rfl] at hR; exact ⟨hin, hR⟩
      · subst hw; rw [if_neg (by decide), if_pos rfl] at hR; exact ⟨hin, hR⟩
      · subst hw; rw [if_neg (by decide), if_neg (by decide), if_pos rfl] at hR; exact ⟨fun h0 => ⟨hin, nI_ne0 (by omega) (by omega), by rw [if_neg (fun e => h0 (by rw [e]; rfl))] at hR; exact hR⟩, fun h0 => by rw [if_pos (n0 h0)] at hR; exact hR⟩
      · subst hw; rw [if_neg (by decide), if_neg (by decide), if_neg (by decide), if_pos rfl] at hR; exact ⟨hin, hR⟩
      · subst hw; exact absurd h3 (by decide)
      · subst hw; exact absurd h3 (by decide)
      · subst hw; exact absurd h3 (by decide)
      · subst hw; exact absurd h3 (by decide)
      · rw [if_neg hw.1, if_neg hw.2.1, if_neg hw.2.2.1, if_neg hw.2.2.2.1, if_neg hw.2.2.2.2.1, if_neg hw.2.2.2.2.2.1, if_neg hw.2.2.2.2.2.2.1, if_neg hw.2.2.2.2.2.2.2] at hR; exact hR
    · refine ⟨S, ⟨hY, ⟨n, hn, rfl⟩⟩, fun I10 J11 hq => ?_⟩
      obtain ⟨-, hg, hE⟩ := hq
      rw [cN_nI (by omega)] at hE
      have hR := hR I10 J11 (hY.g hg).2
      rw [hE.2.2.1, hE.2.2.2.1, hE.2.2.2.2.1, hE.2.2.2.2.2]
      refine ⟨fun hw => ?_, fun hw => ?_, fun hw => ?_, fun hw => ?_, fun hw => ?_, fun hw => ?_, fun hw => ?_, fun hw => ?_, fun hw => ?_⟩
      · subst hw; exact absurd (by decide) h3
      · subst hw; exact absurd (by decide) h3
      · subst hw; exact absurd (by decide) h3
      · subst hw; exact absurd (by decide) h3
      · subst hw; rw [if_neg (by decide), if_neg (by decide), if_neg (by decide), if_neg (by decide), if_pos rfl] at hR; exact hR
      · subst hw; rw [if_neg (by decide), if_neg (by decide), if_neg (by decide), if_neg (by decide), if_neg (by decide), if_pos rfl] at hR; exact hR
      · subst hw; rw [if_neg (by decide), if_neg (by decide), if_neg (by decide), if_neg (by decide), if_neg (by decide), if_neg (by decide), if_pos rfl] at hR; exact hR
      · subst hw; rw [if_neg (by decide), if_neg (by decide), if_neg (by decide), if_neg (by decide), if_neg (by decide), if_neg (by decide), if_neg (by decide), if_pos rfl] at hR; exact hR
      · rw [if_neg hw.1, if_neg hw.2.1, if_neg hw.2.2.1, if_neg hw.2.2.2.1, if_neg hw.2.2.2.2.1, if_neg hw.2.2.2.2.2.1, if_neg hw.2.2.2.2.2.2.1, if_neg hw.2.2.2.2.2.2.2] at hR; exact hR
  · rw [if_pos (hY.isB.mp h)] at hR
    exact hR I0 J0 hY.2
set_option maxHeartbeats 4000000 in
set_option maxRecDepth 100000 in
theorem C_M_block (l : Launch) (D : va_G) (ca : Nat → Nat) (ad : Nat → Nat) (S : mI) (I0 : mI) (J0 : mJ) (a1 : Int32) (a2 : Int32)  (hp : pY2 S I0 J0 a1 a2) : Met l yM_block wM_block ({ frames := 4, cells := 0, slots := 0, locals := 98 } : Room) (va_Pc [.ref (ad 0), .int a1, .int a2] (mPre D vwCl (xty ca) 23 ad (ymk ca ad) nL I0 J0)) (mQi D vwCl 23 ad (ymk ca ad) (qM_block S I0 J0 a1 a2)) 0 0 (mA 23 ad) := by
  refine Met.ofW (cc := cM_block) (maxL := 3) (ret := (some .int)) (by decide) rfl ?_
  intro p e s m args below meth c s₁ B hml hv
  obtain ⟨rfl, hP, hK, hD0, hN⟩ := hv
  have hx := B.exec
  have hb := B.bytes
  have hr := B.returns
  have htb : ∀ w ∈ wb, w.before _ s = true := fun w h => atoms_spec (ws := wM_block) B.pre w (List.mem_cons_of_mem _ h)
  have hown : s.vm.findClass RM = some m.cls := findClass_of_methodNamed B.named
  have hlk := B.notSynchronized
  have hD := mw_Dm hD0
  have hS : va_S (mA 23 ad) s.heap s.heap [] := va_S.rf
  have hl := lv_entry ([.ref (ad 0), .int a1, .int a2]) (n := 3) (Nat.le_of_ble_eq_true rfl)
  rw [lg_entry_eq]
  generalize (lg_sl ([.ref (ad 0), .int a1, .int a2]) ++ List.replicate (3 - (lg_sl ([.ref (ad 0), .int a1, .int a2])).length) Slot.unset).toArray = ls at hl ⊢
  have hl : lv_has ls 3 [(0, .ref (ad 0)), (1, .int a1), (2, .int a2)] := hl
  have h := P_M_block S I0 J0 a1 a2  hp  (qM_block S I0 J0 a1 a2)  (fun _ _ _ h => h)
  unfold wp_M_block at h
  refine lv_aload_n hx hb dM_block_0 rfl (lv_at hl 0 rfl) ?_
  refine lv_iload_n hx hb dM_block_1 rfl (lv_at hl 1 rfl) ?_
  refine mc_r (va_runV (As := [.int a1]) (rest := []) ⟨hx, hb, hml, hown, htb⟩ (C_M_isBlock l D ca ad I0 J0 a1) (cwV 1 htb (gd_v k3_40 k3_42 ks20 k1_8 k3_43) rfl rfl rfl (by decide +kernel) ⟨Nat.le_of_ble_eq_true rfl, Nat.le_of_ble_eq_true rfl⟩) (mPre_V hK hP hD hN rfl (mw_at (by decide) (ym_0 _ _ _ _))) rfl rfl hl.1 rfl (lv_room (Nat.le_of_ble_eq_true rfl)) dM_block_2 ⟨Nat.le_of_ble_eq_true rfl, Nat.le_of_ble_eq_true rfl⟩) hS (fun H locs hP hS => ?_)
  refine lv_if_ne (tgt := 10) hx hb dM_block_5 (by decide) (fun hc => ?_) (fun hc => ?_)
  · have h := h.1 hc
    refine lv_iload_n hx hb dM_block_10 rfl (lv_at hl 2 rfl) ?_
    refine lv_iconst (v := 3) hx hb dM_block_11 (by decide) ?_
    refine lv_icmp_le (tgt := 20) hx hb dM_block_12 (by decide) (fun hc => ?_) (fun hc => ?_)
    · have h := h.1 hc
      refine lv_iload_n hx hb dM_block_20 rfl (lv_at hl 2 rfl) ?_
      by_cases hc0 : a2 = 0
      · have h := h.1 hc0
        refine lv_tableIn (off := 47) (tgt := 68) hx hb dM_block_21 (by rw [hc0]; decide) (by rw [hc0]; decide) (by rw [hc0]; rfl) (by decide) ?_
        refine lv_aload_n hx hb dM_block_68 rfl (lv_at hl 0 rfl) ?_
        refine va_get (D := D) (ci := 6) (v := .ref (ad 2)) (C := RM) (T := TM) (N := 33) hx hb htb inM hown hK hP 0 (mw_at (by decide) (ym_0 _ _ _ _)) rfl 5 (by decide) (htb _ k2_177) (fun _ h9 => h9) rfl dM_block_69 ?_
        refine lv_iload_n hx hb dM_block_72 rfl (lv_at hl 1 rfl) ?_
        obtain ⟨hn2, h⟩ := h
        refine mr_iald hx hb hK hP 2 0 (by decide) rfl rfl hn2 dM_block_73 ?_
        exact me_i hx hb hr hlk hP hS h dM_block_74
      by_cases hc1 : a2 = 1
      · have h := h.2.1 hc1
        refine lv_tableIn (off := 54) (tgt := 75) hx hb dM_block_21 (by rw [hc1]; decide) (by rw [hc1]; decide) (by rw [hc1]; rfl) (by decide) ?_
        refine lv_aload_n hx hb dM_block_75 rfl (lv_at hl 0 rfl) ?_
        refine va_get (D := D) (ci := 6) (v := .ref (ad 3)) (C := RM) (T := TM) (N := 33) hx hb htb inM hown hK hP 0 (mw_at (by decide) (ym_0 _ _ _ _)) rfl 6 (by decide) (htb _ k2_178) (fun _ h9 => h9) rfl dM_block_76 ?_
        refine lv_iload_n hx hb dM_block_79 rfl (lv_at hl 1 rfl) ?_
        obtain ⟨hn3, h⟩ := h
        refine mr_iald hx hb hK hP 3 0 (by decide) rfl rfl hn3 dM_block_80 ?_
        exact me_i hx hb hr hlk hP hS h dM_block_81
      by_cases hc2 : a2 = 2
      · have h := h.2.2.1 hc2
        refine lv_tableIn (off := 61) (tgt := 82) hx hb dM_block_21 (by rw [hc2]; decide) (by rw [hc2]; decide) (by rw [hc2]; rfl) (by decide) ?_
        refine lv_iload_n hx hb dM_block_82 rfl (lv_at hl 1 rfl) ?_
        refine lv_if_ne (tgt := 90) hx hb dM_block_83 (by decide) (fun hc => ?_) (fun hc => ?_)
        · have h := h.1 hc
          refine lv_aload_n hx hb dM_block_90 rfl (lv_at hl 0 rfl) ?_
          refine va_get (D := D) (ci := 6) (v := .ref (ad 3)) (C := RM) (T := TM) (N := 33) hx hb htb inM hown hK hP 0 (mw_at (by decide) (ym_0 _ _ _ _)) rfl 6 (by decide) (htb _ k2_178) (fun _ h9 => h9) rfl dM_block_91 ?_
          refine lv_iload_n hx hb dM_block_94 rfl (lv_at hl 1 rfl) ?_
          obtain ⟨hn4, h⟩ := h
          refine mr_iald hx hb hK hP 3 0 (by decide) rfl rfl hn4 dM_block_95 ?_
          refine lv_aload_n hx hb dM_block_96 rfl (lv_at hl 0 rfl) ?_
          refine va_get (D := D) (ci := 6) (v := .int (I0 0 0)) (C := RM) (T := TM) (N := 33) hx hb htb inM hown hK hP 0 (mw_at (by decide) (ym_0 _ _ _ _)) rfl 0 (by decide) (htb _ k2_172) (fun _ h9 => h9) rfl dM_block_97 ?_
          obtain ⟨hz5, h⟩ := h
          refine lv_irem hx hb dM_block_100 hz5 ?_
          exact me_i hx hb hr hlk hP hS h dM_block_101
        · have h := h.2 hc
          refine lv_iconst (v := 0) hx hb dM_block_86 (by decide) ?_
          refine lv_goto (tgt := 101) hx hb dM_block_87 (by decide) ?_
          exact me_i hx hb hr hlk hP hS h dM_block_101
      by_cases hc3 : a2 = 3
      · have h := h.2.2.2.1 hc3
        refine lv_tableIn (off := 81) (tgt := 102) hx hb dM_block_21 (by rw [hc3]; decide) (by rw [hc3]; decide) (by rw [hc3]; rfl) (by decide) ?_
        refine lv_aload_n hx hb dM_block_102 rfl (lv_at hl 0 rfl) ?_
        refine va_get (D := D) (ci := 6) (v := .ref (ad 4)) (C := RM) (T := TM) (N := 33) hx hb htb inM hown hK hP 0 (mw_at (by decide) (ym_0 _ _ _ _)) rfl 7 (by decide) (htb _ k2_179) (fun _ h9 => h9) rfl dM_block_103 ?_
        refine lv_iload_n hx hb dM_block_106 rfl (lv_at hl 1 rfl) ?_
        obtain ⟨hn6, h⟩ := h
        refine mr_iald hx hb hK hP 4 0 (by decide) rfl rfl hn6 dM_block_107 ?_
        exact me_i hx hb hr hlk hP hS h dM_block_108
      by_cases hc4 : a2 = 4
      · have h := h.2.2.2.2.1 hc4
        refine lv_tableIn (off := 88) (tgt := 109) hx hb dM_block_21 (by rw [hc4]; decide) (by rw [hc4]; decide) (by rw [hc4]; rfl) (by decide) ?_
        refine lv_aload_n hx hb dM_block_109 rfl (lv_at hl 0 rfl) ?_
        refine va_get (D := D) (ci := 6) (v := .int (I0 0 28)) (C := RM) (T := TM) (N := 33) hx hb htb inM hown hK hP 0 (mw_at (by decide) (ym_0 _ _ _ _)) rfl 28 (by decide) (htb _ k2_200) (fun _ h9 => h9) rfl dM_block_110 ?_
        exact me_i hx hb hr hlk hP hS h dM_block_113
      by_cases hc5 : a2 = 5
      · have h := h.2.2.2.2.2.1 hc5
        refine lv_tableIn (off := 93) (tgt := 114) hx hb dM_block_21 (by rw [hc5]; decide) (by rw [hc5]; decide) (by rw [hc5]; rfl) (by decide) ?_
        refine lv_aload_n hx hb dM_block_114 rfl (lv_at hl 0 rfl) ?_
        refine va_get (D := D) (ci := 6) (v := .int (I0 0 29)) (C := RM) (T := TM) (N := 33) hx hb htb inM hown hK hP 0 (mw_at (by decide) (ym_0 _ _ _ _)) rfl 29 (by decide) (htb _ k2_201) (fun _ h9 => h9) rfl dM_block_115 ?_
        exact me_i hx hb hr hlk hP hS h dM_block_118
      by_cases hc6 : a2 = 6
      · have h := h.2.2.2.2.2.2.1 hc6
        refine lv_tableIn (off := 98) (tgt := 119) hx hb dM_block_21 (by rw [hc6]; decide) (by rw [hc6]; decide) (by rw [hc6]; rfl) (by decide) ?_
        refine lv_aload_n hx hb dM_block_119 rfl (lv_at hl 0 rfl) ?_
        refine va_get (D := D) (ci := 6) (v := .int (I0 0 30)) (C := RM) (T := TM) (N := 33) hx hb htb inM hown hK hP 0 (mw_at (by decide) (ym_0 _ _ _ _)) rfl 30 (by decide) (htb _ k2_202) (fun _ h9 => h9) rfl dM_block_120 ?_
        exact me_i hx hb hr hlk hP hS h dM_block_123
      by_cases hc7 : a2 = 7
      · have h := h.2.2.2.2.2.2.2.1 hc7
        refine lv_tableIn (off := 103) (tgt := 124) hx hb dM_block_21 (by rw [hc7]; decide) (by rw [hc7]; decide) (by rw [hc7]; rfl) (by decide) ?_
        refine lv_aload_n hx hb dM_block_124 rfl (lv_at hl 0 rfl) ?_
        refine va_get (D := D) (ci := 6) (v := .int (I0 0 31)) (C := RM) (T := TM) (N := 33) hx hb htb inM hown hK hP 0 (mw_at (by decide) (ym_0 _ _ _ _)) rfl 31 (by decide) (htb _ k2_203) (fun _ h9 => h9) rfl dM_block_125 ?_
        exact me_i hx hb hr hlk hP hS h dM_block_128
      have h := h.2.2.2.2.2.2.2.2 ⟨hc0, hc1, hc2, hc3, hc4, hc5, hc6, hc7⟩
      refine lv_tableOut (tgt := 129) hx hb dM_block_21 (sw_out (by have q0 := sw_ne (k := 0) (n := 0) rfl hc0; have q1 := sw_ne (k := 1) (n := 1) rfl hc1; have q2 := sw_ne (k := 2) (n := 2) rfl hc2; have q3 := sw_ne (k := 3) (n := 3) rfl hc3; have q4 := sw_ne (k := 4) (n := 4) rfl hc4; have q5 := sw_ne (k := 5) (n := 5) rfl hc5; have q6 := sw_ne (k := 6) (n := 6) rfl hc6; have q7 := sw_ne (k := 7) (n := 7) rfl hc7; omega)) (by decide) ?_
      refine lv_iconst (v := (-1)) hx hb dM_block_129 (by decide) ?_
      exact me_i hx hb hr hlk hP hS h dM_block_130
    · have h := h.2 hc
      refine lv_aload_n hx hb dM_block_15 rfl (lv_at hl 0 rfl) ?_
      refine lv_iload_n hx hb dM_block_16 rfl (lv_at hl 1 rfl) ?_
      obtain ⟨S7, h⟩ := h
      obtain ⟨hp8, h⟩ := h
      refine mc_v (va_runV (As := [.int a1]) (rest := []) ⟨hx, hb, hml, hown, htb⟩ (C_M_make l D ca ad S7 I0 J0 a1 hp8) (cwV 1 htb (gd_v k3_47 k3_49 ks21 k1_8 k3_50) rfl rfl rfl (by decide +kernel) ⟨Nat.le_of_ble_eq_true rfl, Nat.le_of_ble_eq_true rfl⟩) (mPre_V hK hP hD hN rfl (mw_at (by decide) (ym_0 _ _ _ _))) rfl rfl hl.1 rfl (lv_room (Nat.le_of_ble_eq_true rfl)) dM_block_17 ⟨Nat.le_of_ble_eq_true rfl, Nat.le_of_ble_eq_true rfl⟩) hS (fun I10 J11 H locs hpost hP hS => ?_)
      have h := h I10 J11 hpost
      refine lv_iload_n hx hb dM_block_20 rfl (lv_at hl 2 rfl) ?_
      by_cases hc0 : a2 = 0
      · have h := h.1 hc0
        refine lv_tableIn (off := 47) (tgt := 68) hx hb dM_block_21 (by rw [hc0]; decide) (by rw [hc0]; decide) (by rw [hc0]; rfl) (by decide) ?_
        refine lv_aload_n hx hb dM_block_68 rfl (lv_at hl 0 rfl) ?_
        refine va_get (D := D) (ci := 6) (v := .ref (ad 2)) (C := RM) (T := TM) (N := 33) hx hb htb inM hown hK hP 0 (mw_at (by decide) (ym_0 _ _ _ _)) rfl 5 (by decide) (htb _ k2_177) (fun _ h9 => h9) rfl dM_block_69 ?_
        refine lv_iload_n hx hb dM_block_72 rfl (lv_at hl 1 rfl) ?_
        obtain ⟨hn12, h⟩ := h
        refine mr_iald hx hb hK hP 2 0 (by decide) rfl rfl hn12 dM_block_73 ?_
        exact me_i hx hb hr hlk hP hS h dM_block_74
      by_cases hc1 : a2 = 1
      · have h := h.2.1 hc1
        refine lv_tableIn (off := 54) (tgt := 75) hx hb dM_block_21 (by rw [hc1]; decide) (by rw [hc1]; decide) (by rw [hc1]; rfl) (by decide) ?_
        refine lv_aload_n hx hb dM_block_75 rfl (lv_at hl 0 rfl) ?_
        refine va_get (D := D) (ci := 6) (v := .ref (ad 3)) (C := RM) (T := TM) (N := 33) hx hb htb inM hown hK hP 0 (mw_at (by decide) (ym_0 _ _ _ _)) rfl 6 (by decide) (htb _ k2_178) (fun _ h9 => h9) rfl dM_block_76 ?_
        refine lv_iload_n hx hb dM_block_79 rfl (lv_at hl 1 rfl) ?_
        obtain ⟨hn13, h⟩ := h
        refine mr_iald hx hb hK hP 3 0 (by decide) rfl rfl hn13 dM_block_80 ?_
        exact me_i hx hb hr hlk hP hS h dM_block_81
      by_cases hc2 : a2 = 2
      · have h := h.2.2.1 hc2
        refine lv_tableIn (off := 61) (tgt := 82) hx hb dM_block_21 (by rw [hc2]; decide) (by rw [hc2]; decide) (by rw [hc2]; rfl) (by decide) ?_
        refine lv_iload_n hx hb dM_block_82 rfl (lv_at hl 1 rfl) ?_
        refine lv_if_ne (tgt := 90) hx hb dM_block_83 (by decide) (fun hc => ?_) (fun hc => ?_)
        · have h := h.1 hc
          refine lv_aload_n hx hb dM_block_90 rfl (lv_at hl 0 rfl) ?_
          refine va_get (D := D) (ci := 6) (v := .ref (ad 3)) (C := RM) (T := TM) (N := 33) hx hb htb inM hown hK hP 0 (mw_at (by decide) (ym_0 _ _ _ _)) rfl 6 (by decide) (htb _ k2_178) (fun _ h9 => h9) rfl dM_block_91 ?_
          refine lv_iload_n hx hb dM_block_94 rfl (lv_at hl 1 rfl) ?_
          obtain ⟨hn14, h⟩ := h
          refine mr_iald hx hb hK hP 3 0 (by decide) rfl rfl hn14 dM_block_95 ?_
          refine lv_aload_n hx hb dM_block_96 rfl (lv_at hl 0 rfl) ?_
          refine va_get (D := D) (ci := 6) (v := .int (I10 0 0)) (C := RM) (T := TM) (N := 33) hx hb htb inM hown hK hP 0 (mw_at (by decide) (ym_0 _ _ _ _)) rfl 0 (by decide) (htb _ k2_172) (fun _ h9 => h9) rfl dM_block_97 ?_
          obtain ⟨hz15, h⟩ := h
          refine lv_irem hx hb dM_block_100 hz15 ?_
          exact me_i hx hb hr hlk hP hS h dM_block_101
        · have h := h.2 hc
          refine lv_iconst (v := 0) hx hb dM_block_86 (by decide) ?_
          refine lv_goto (tgt := 101) hx hb dM_block_87 (by decide) ?_
          exact me_i hx hb hr hlk hP hS h dM_block_101
      by_cases hc3 : a2 = 3
      · have h := h.2.2.2.1 hc3
        refine lv_tableIn (off := 81) (tgt := 102) hx hb dM_block_21 (by rw [hc3]; decide) (by rw [hc3]; decide) (by rw [hc3]; rfl) (by decide) ?_
        refine lv_aload_n hx hb dM_block_102 rfl (lv_at hl 0 rfl) ?_
        refine va_get (D := D) (ci := 6) (v := .ref (ad 4)) (C := RM) (T := TM) (N := 33) hx hb htb inM hown hK hP 0 (mw_at (by decide) (ym_0 _ _ _ _)) rfl 7 (by decide) (htb _ k2_179) (fun _ h9 => h9) rfl dM_block_103 ?_
        refine lv_iload_n hx hb dM_block_106 rfl (lv_at hl 1 rfl) ?_
        obtain ⟨hn16, h⟩ := h
        refine mr_iald hx hb hK hP 4 0 (by decide) rfl rfl hn16 dM_block_107 ?_
        exact me_i hx hb hr hlk hP hS h dM_block_108
      by_cases hc4 : a2 = 4
      · have h := h.2.2.2.2.1 hc4
        refine lv_tableIn (off := 88) (tgt := 109) hx hb dM_block_21 (by rw [hc4]; decide) (by rw [hc4]; decide) (by rw [hc4]; rfl) (by decide) ?_
        refine lv_aload_n hx hb dM_block_109 rfl (lv_at hl 0 rfl) ?_
        refine va_get (D := D) (ci := 6) (v := .int (I10 0 28)) (C := RM) (T := TM) (N := 33) hx hb htb inM hown hK hP 0 (mw_at (by decide) (ym_0 _ _ _ _)) rfl 28 (by decide) (htb _ k2_200) (fun _ h9 => h9) rfl dM_block_110 ?_
        exact me_i hx hb hr hlk hP hS h dM_block_113
      by_cases hc5 : a2 = 5
      · have h := h.2.2.2.2.2.1 hc5
        refine lv_tableIn (off := 93) (tgt := 114) hx hb dM_block_21 (by rw [hc5]; decide) (by rw [hc5]; decide) (by rw [hc5]; rfl) (by decide) ?_
        refine lv_aload_n hx hb dM_block_114 rfl (lv_at hl 0 rfl) ?_
        refine va_get (D := D) (ci := 6) (v := .int (I10 0 29)) (C := RM) (T := TM) (N := 33) hx hb htb inM hown hK hP 0 (mw_at (by decide) (ym_0 _ _ _ _)) rfl 29 (by decide) (htb _ k2_201) (fun _ h9 => h9) rfl dM_block_115 ?_
        exact me_i hx hb hr hlk hP hS h dM_block_118
      by_cases hc6 : a2 = 6
      · have h := h.2.2.2.2.2.2.1 hc6
        refine lv_tableIn (off := 98) (tgt := 119) hx hb dM_block_21 (by rw [hc6]; decide) (by rw [hc6]; decide) (by rw [hc6]; rfl) (by decide) ?_
        refine lv_aload_n hx hb dM_block_119 rfl (lv_at hl 0 rfl) ?_
        refine va_get (D := D) (ci := 6) (v := .int (I10 0 30)) (C := RM) (T := TM) (N := 33) hx hb htb inM hown hK hP 0 (mw_at (by decide) (ym_0 _ _ _ _)) rfl 30 (by decide) (htb _ k2_202) (fun _ h9 => h9) rfl dM_block_120 ?_
        exact me_i hx hb hr hlk hP hS h dM_block_123
      by_cases hc7 : a2 = 7
      · have h := h.2.2.2.2.2.2.2.1 hc7
        refine lv_tableIn (off := 103) (tgt := 124) hx hb dM_block_21 (by rw [hc7]; decide) (by rw [hc7]; decide) (by rw [hc7]; rfl) (by decide) ?_
        refine lv_aload_n hx hb dM_block_124 rfl (lv_at hl 0 rfl) ?_
        refine va_get (D := D) (ci := 6) (v := .int (I10 0 31)) (C := RM) (T := TM) (N := 33) hx hb htb inM hown hK hP 0 (mw_at (by decide) (ym_0 _ _ _ _)) rfl 31 (by decide) (htb _ k2_203) (fun _ h9 => h9) rfl dM_block_125 ?_
        exact me_i hx hb hr hlk hP hS h dM_block_128
      have h := h.2.2.2.2.2.2.2.2 ⟨hc0, hc1, hc2, hc3, hc4, hc5, hc6, hc7⟩
      refine lv_tableOut (tgt := 129) hx hb dM_block_21 (sw_out (by have q0 := sw_ne (k := 0) (n := 0) rfl hc0; have q1 := sw_ne (k := 1) (n := 1) rfl hc1; have q2 := sw_ne (k := 2) (n := 2) rfl hc2; have q3 := sw_ne (k := 3) (n := 3) rfl hc3; have q4 := sw_ne (k := 4) (n := 4) rfl hc4; have q5 := sw_ne (k := 5) (n := 5) rfl hc5; have q6 := sw_ne (k := 6) (n := 6) rfl hc6; have q7 := sw_ne (k := 7) (n := 7) rfl hc7; omega)) (by decide) ?_
      refine lv_iconst (v := (-1)) hx hb dM_block_129 (by decide) ?_
      exact me_i hx hb hr hlk hP hS h dM_block_130
  · have h := h.2 hc
    refine lv_iconst (v := (-1)) hx hb dM_block_8 (by decide) ?_
    exact me_i hx hb hr hlk hP hS h dM_block_9
def wp_M_balance (R : Int32 → mI → mJ → Prop) (I0 : mI) (J0 : mJ) (a1 : Int32) (a2 : Int32) : Prop :=
  (((fM_isBlock I0 J0 a1) = 0 → R (-1) I0 J0) ∧ (¬ ((fM_isBlock I0 J0 a1) = 0) → ((¬ ((fM_isValidator I0 J0 a2) = 0) → (∃ (S3 : mI), (pM_make S3 I0 J0 a1 ∧ (∀ (I6 : mI) (J7 : mJ), qM_make S3 I0 J0 a1 I6 J7 → (vp_in a2 7 ∧ R (I6 18 a2.toNatClampNeg) I6 J7))))) ∧ ((fM_isValidator I0 J0 a2) = 0 → R (-1) I0 J0))))
theorem P_M_balance (S : mI) (I0 : mI) (J0 : mJ) (a1 : Int32) (a2 : Int32)  (hp : pY2 S I0 J0 a1 a2)  (R : Int32 → mI → mJ → Prop)  (hR : ∀ (r : Int32) (I' : mI) (J' : mJ), qM_balance S I0 J0 a1 a2 r I' J' → R r I' J') : wp_M_balance R I0 J0 a1 a2 := by
  have hY : YR S I0 := hp
  have hb := hY.1.b
  have hR : ∀ I' J', RY S I' → R (rBal S a1 a2) I' J' := fun I' J' h => hR _ I' J' ⟨rfl, h⟩
  unfold rBal at hR
  unfold wp_M_balance
  refine ⟨fun h => ?_, fun h => ⟨fun h2 => ?_, fun h2 => ?_⟩⟩
  · rw [if_pos (Or.inl (hY.isB.mp h))] at hR
    exact hR I0 J0 hY.2
  · have h1 : iBl S a1 := nn (fun q => h (hY.isB.mpr q))
    have h3 : iVd S a2 := nn (fun q => h2 (hY.isD.mpr q))
    rw [if_neg (fun q => q.elim (fun z => z h1) (fun z => z h3))] at hR
    obtain ⟨n, hn, rfl⟩ := hY.1.iB h1
    obtain ⟨v, hv, rfl⟩ := hY.1.iD h3
    rw [cN_nI (by omega), cN_nI (by omega)] at hR
    refine ⟨S, ⟨hY, ⟨n, hn, rfl⟩⟩, fun I10 J11 hq => ?_⟩
    obtain ⟨-, hg, hE⟩ := hq
    rw [cN_nI (by omega)] at hE
    rw [ic (by omega), (hE.1 v (by omega)).1]
    exact ⟨i7_of (by omega), hR I10 J11 (hY.g hg).2⟩
  · rw [if_pos (Or.inr (hY.isD.mp h2))] at hR
    exact hR I0 J0 hY.2
set_option maxHeartbeats 4000000 in
set_option maxRecDepth 100000 in
theorem C_M_balance (l : Launch) (D : va_G) (ca : Nat → Nat) (ad : Nat → Nat) (S : mI) (I0 : mI) (J0 : mJ) (a1 : Int32) (a2 : Int32)  (hp : pY2 S I0 J0 a1 a2) : Met l yM_balance wM_balance ({ frames := 4, cells := 0, slots := 0, locals := 98 } : Room) (va_Pc [.ref (ad 0), .int a1, .int a2] (mPre D vwCl (xty ca) 23 ad (ymk ca ad) nL I0 J0)) (mQi D vwCl 23 ad (ymk ca ad) (qM_balance S I0 J0 a1 a2)) 0 0 (mA 23 ad) := by
  refine Met.ofW (cc := cM_balance) (maxL := 3) (ret := (some .int)) (by decide) rfl ?_
  intro p e s m args below meth c s₁ B hml hv
  obtain ⟨rfl, hP, hK, hD0, hN⟩ := hv
  have hx := B.exec
  have hb := B.bytes
  have hr := B.returns
  have htb : ∀ w ∈ wb, w.before _ s = true := fun w h => atoms_spec (ws := wM_balance) B.pre w (List.mem_cons_of_mem _ h)
  have hown : s.vm.findClass RM = some m.cls := findClass_of_methodNamed B.named
  have hlk := B.notSynchronized
  have hD := mw_Dm hD0
  have hS : va_S (mA 23 ad) s.heap s.heap [] := va_S.rf
  have hl := lv_entry ([.ref (ad 0), .int a1, .int a2]) (n := 3) (Nat.le_of_ble_eq_true rfl)
  rw [lg_entry_eq]
  generalize (lg_sl ([.ref (ad 0), .int a1, .int a2]) ++ List.replicate (3 - (lg_sl ([.ref (ad 0), .int a1, .int a2])).length) Slot.unset).toArray = ls at hl ⊢
  have hl : lv_has ls 3 [(0, .ref (ad 0)), (1, .int a1), (2, .int a2)] := hl
  have h := P_M_balance S I0 J0 a1 a2  hp  (qM_balance S I0 J0 a1 a2)  (fun _ _ _ h => h)
  unfold wp_M_balance at h
  refine lv_aload_n hx hb dM_balance_0 rfl (lv_at hl 0 rfl) ?_
  refine lv_iload_n hx hb dM_balance_1 rfl (lv_at hl 1 rfl) ?_
  refine mc_r (va_runV (As := [.int a1]) (rest := []) ⟨hx, hb, hml, hown, htb⟩ (C_M_isBlock l D ca ad I0 J0 a1) (cwV 1 htb (gd_v k3_40 k3_42 ks20 k1_8 k3_43) rfl rfl rfl (by decide +kernel) ⟨Nat.le_of_ble_eq_true rfl, Nat.le_of_ble_eq_true rfl⟩) (mPre_V hK hP hD hN rfl (mw_at (by decide) (ym_0 _ _ _ _))) rfl rfl hl.1 rfl (lv_room (Nat.le_of_ble_eq_true rfl)) dM_balance_2 ⟨Nat.le_of_ble_eq_true rfl, Nat.le_of_ble_eq_true rfl⟩) hS (fun H locs hP hS => ?_)
  refine lv_if_eq (tgt := 16) hx hb dM_balance_5 (by decide) (fun hc => ?_) (fun hc => ?_)
  · have h := h.1 hc
    refine lv_iconst (v := (-1)) hx hb dM_balance_16 (by decide) ?_
    exact me_i hx hb hr hlk hP hS h dM_balance_17
  · have h := h.2 hc
    refine lv_aload_n hx hb dM_balance_8 rfl (lv_at hl 0 rfl) ?_
    refine lv_iload_n hx hb dM_balance_9 rfl (lv_at hl 2 rfl) ?_
    refine mc_r (va_runV (As := [.int a2]) (rest := []) ⟨hx, hb, hml, hown, htb⟩ (C_M_isValidator l D ca ad I0 J0 a2) (cwV 1 htb (gd_v k3_36 k3_38 ks19 k1_8 k3_39) rfl rfl rfl (by decide +kernel) ⟨Nat.le_of_ble_eq_true rfl, Nat.le_of_ble_eq_true rfl⟩) (mPre_V hK hP hD hN rfl (mw_at (by decide) (ym_0 _ _ _ _))) rfl rfl hl.1 rfl (lv_room (Nat.le_of_ble_eq_true rfl)) dM_balance_10 ⟨Nat.le_of_ble_eq_true rfl, Nat.le_of_ble_eq_true rfl⟩) hS (fun H locs hP hS => ?_)
    refine lv_if_ne (tgt := 18) hx hb dM_balance_13 (by decide) (fun hc => ?_) (fun hc => ?_)
    · have h := h.1 hc
      refine lv_aload_n hx hb dM_balance_18 rfl (lv_at hl 0 rfl) ?_
      refine lv_iload_n hx hb dM_balance_19 rfl (lv_at hl 1 rfl) ?_
      obtain ⟨S3, h⟩ := h
      obtain ⟨hp4, h⟩ := h
      refine mc_v (va_runV (As := [.int a1]) (rest := []) ⟨hx, hb, hml, hown, htb⟩ (C_M_make l D ca ad S3 I0 J0 a1 hp4) (cwV 1 htb (gd_v k3_47 k3_49 ks21 k1_8 k3_50) rfl rfl rfl (by decide +kernel) ⟨Nat.le_of_ble_eq_true rfl, Nat.le_of_ble_eq_true rfl⟩) (mPre_V hK hP hD hN rfl (mw_at (by decide) (ym_0 _ _ _ _))) rfl rfl hl.1 rfl (lv_room (Nat.le_of_ble_eq_true rfl)) dM_balance_20 ⟨Nat.le_of_ble_eq_true rfl, Nat.le_of_ble_eq_true rfl⟩) hS (fun I6 J7 H locs hpost hP hS => ?_)
      have h := h I6 J7 hpost
      refine lv_aload_n hx hb dM_balance_23 rfl (lv_at hl 0 rfl) ?_
      refine va_get (D := D) (ci := 6) (v := .ref (ad 18)) (C := RM) (T := TM) (N := 33) hx hb htb inM hown hK hP 0 (mw_at (by decide) (ym_0 _ _ _ _)) rfl 24 (by decide) (htb _ k2_196) (fun _ h9 => h9) rfl dM_balance_24 ?_
      refine lv_iload_n hx hb dM_balance_27 rfl (lv_at hl 2 rfl) ?_
      obtain ⟨hn8, h⟩ := h
      refine mr_iald hx hb hK hP 18 0 (by decide) rfl rfl hn8 dM_balance_28 ?_
      exact me_i hx hb hr hlk hP hS h dM_balance_29
    · have h := h.2 hc
      refine lv_iconst (v := (-1)) hx hb dM_balance_16 (by decide) ?_
      exact me_i hx hb hr hlk hP hS h dM_balance_17
def wp_M_punished (R : Int32 → mI → mJ → Prop) (I0 : mI) (J0 : mJ) (a1 : Int32) (a2 : Int32) : Prop :=
  (((fM_isBlock I0 J0 a1) = 0 → R 0 I0 J0) ∧ (¬ ((fM_isBlock I0 J0 a1) = 0) → ((¬ ((fM_isValidator I0 J0 a2) = 0) → (∃ (S3 : mI), (pM_make S3 I0 J0 a1 ∧ (∀ (I6 : mI) (J7 : mJ), qM_make S3 I0 J0 a1 I6 J7 → (vp_in a2 7 ∧ (narrow .boolean (.int (I6 19 a2.toNatClampNeg)) = .int (I6 19 a2.toNatClampNeg) ∧ R (I6 19 a2.toNatClampNeg) I6 J7)))))) ∧ ((fM_isValidator I0 J0 a2) = 0 → R 0 I0 J0))))
theorem P_M_punished (S : mI) (I0 : mI) (J0 : mJ) (a1 : Int32) (a2 : Int32)  (hp : pY2 S I0 J0 a1 a2)  (R : Int32 → mI → mJ → Prop)  (hR : ∀ (r : Int32) (I' : mI) (J' : mJ), qM_punished S I0 J0 a1 a2 r I' J' → R r I' J') : wp_M_punished R I0 J0 a1 a2 := by
  have hY : YR S I0 := hp
  have hb := hY.1.b
  have hR : ∀ I' J', RY S I' → R (rPun S a1 a2) I' J' := fun I' J' h => hR _ I' J' ⟨rfl, h⟩
  unfold rPun at hR
  unfold wp_M_punished
  refine ⟨fun h => ?_, fun h => ⟨fun h2 => ?_, fun h2 => ?_⟩⟩
  · rw [if_pos (Or.inl (hY.isB.mp h))] at hR
    exact hR I0 J0 hY.2
  · have h1 : iBl S a1 := nn (fun q => h (hY.isB.mpr q))
    have h3 : iVd S a2 := nn (fun q => h2 (hY.isD.mpr q))
    rw [if_neg (fun q => q.elim (fun z => z h1) (fun z => z h3))] at hR
    obtain ⟨n, hn, rfl⟩ := hY.1.iB h1
    obtain ⟨v, hv, rfl⟩ := hY.1.iD h3
    rw [cN_nI (by omega), cN_nI (by omega)] at hR
    refine ⟨S, ⟨hY, ⟨n, hn, rfl⟩⟩, fun I10 J11 hq => ?_⟩
    obtain ⟨-, hg, hE⟩ := hq
    rw [cN_nI (by omega)] at hE
    rw [ic (by omega), (hE.1 v (by omega)).2.1]
    exact ⟨i7_of (by omega), by cases gP (gS S n) v <;> rfl, hR I10 J11 (hY.g hg).2⟩
  · rw [if_pos (Or.inr (hY.isD.mp h2))] at hR
    exact hR I0 J0 hY.2
set_option maxHeartbeats 4000000 in
set_option maxRecDepth 100000 in
theorem C_M_punished (l : Launch) (D : va_G) (ca : Nat → Nat) (ad : Nat → Nat) (S : mI) (I0 : mI) (J0 : mJ) (a1 : Int32) (a2 : Int32)  (hp : pY2 S I0 J0 a1 a2) : Met l yM_punished wM_punished ({ frames := 4, cells := 0, slots := 0, locals := 98 } : Room) (va_Pc [.ref (ad 0), .int a1, .int a2] (mPre D vwCl (xty ca) 23 ad (ymk ca ad) nL I0 J0)) (mQi D vwCl 23 ad (ymk ca ad) (qM_punished S I0 J0 a1 a2)) 0 0 (mA 23 ad) := by
  refine Met.ofW (cc := cM_punished) (maxL := 3) (ret := (some .boolean)) (by decide) rfl ?_
  intro p e s m args below meth c s₁ B hml hv
  obtain ⟨rfl, hP, hK, hD0, hN⟩ := hv
  have hx := B.exec
  have hb := B.bytes
  have hr := B.returns
  have htb : ∀ w ∈ wb, w.before _ s = true := fun w h => atoms_spec (ws := wM_punished) B.pre w (List.mem_cons_of_mem _ h)
  have hown : s.vm.findClass RM = some m.cls := findClass_of_methodNamed B.named
  have hlk := B.notSynchronized
  have hD := mw_Dm hD0
  have hS : va_S (mA 23 ad) s.heap s.heap [] := va_S.rf
  have hl := lv_entry ([.ref (ad 0), .int a1, .int a2]) (n := 3) (Nat.le_of_ble_eq_true rfl)
  rw [lg_entry_eq]
  generalize (lg_sl ([.ref (ad 0), .int a1, .int a2]) ++ List.replicate (3 - (lg_sl ([.ref (ad 0), .int a1, .int a2])).length) Slot.unset).toArray = ls at hl ⊢
  have hl : lv_has ls 3 [(0, .ref (ad 0)), (1, .int a1), (2, .int a2)] := hl
  have h := P_M_punished S I0 J0 a1 a2  hp  (qM_punished S I0 J0 a1 a2)  (fun _ _ _ h => h)
  unfold wp_M_punished at h
  refine lv_aload_n hx hb dM_punished_0 rfl (lv_at hl 0 rfl) ?_
  refine lv_iload_n hx hb dM_punished_1 rfl (lv_at hl 1 rfl) ?_
  refine mc_r (va_runV (As := [.int a1]) (rest := []) ⟨hx, hb, hml, hown, htb⟩ (C_M_isBlock l D ca ad I0 J0 a1) (cwV 1 htb (gd_v k3_40 k3_42 ks20 k1_8 k3_43) rfl rfl rfl (by decide +kernel) ⟨Nat.le_of_ble_eq_true rfl, Nat.le_of_ble_eq_true rfl⟩) (mPre_V hK hP hD hN rfl (mw_at (by decide) (ym_0 _ _ _ _))) rfl rfl hl.1 rfl (lv_room (Nat.le_of_ble_eq_true rfl)) dM_punished_2 ⟨Nat.le_of_ble_eq_true rfl, Nat.le_of_ble_eq_true rfl⟩) hS (fun H locs hP hS => ?_)
  refine lv_if_eq (tgt := 16) hx hb dM_punished_5 (by decide) (fun hc => ?_) (fun hc => ?_)
  · have h := h.1 hc
    refine lv_iconst (v := 0) hx hb dM_punished_16 (by decide) ?_
    exact me_z hx hb hr hlk hP hS rfl h dM_punished_17
  · have h := h.2 hc
    refine lv_aload_n hx hb dM_punished_8 rfl (lv_at hl 0 rfl) ?_
    refine lv_iload_n hx hb dM_punished_9 rfl (lv_at hl 2 rfl) ?_
    refine mc_r (va_runV (As := [.int a2]) (rest := []) ⟨hx, hb, hml, hown, htb⟩ (C_M_isValidator l D ca ad I0 J0 a2) (cwV 1 htb (gd_v k3_36 k3_38 ks19 k1_8 k3_39) rfl rfl rfl (by decide +kernel) ⟨Nat.le_of_ble_eq_true rfl, Nat.le_of_ble_eq_true rfl⟩) (mPre_V hK hP hD hN rfl (mw_at (by decide) (ym_0 _ _ _ _))) rfl rfl hl.1 rfl (lv_room (Nat.le_of_ble_eq_true rfl)) dM_punished_10 ⟨Nat.le_of_ble_eq_true rfl, Nat.le_of_ble_eq_true rfl⟩) hS (fun H locs hP hS => ?_)
    refine lv_if_ne (tgt := 18) hx hb dM_punished_13 (by decide) (fun hc => ?_) (fun hc => ?_)
    · have h := h.1 hc
      refine lv_aload_n hx hb dM_punished_18 rfl (lv_at hl 0 rfl) ?_
      refine lv_iload_n hx hb dM_punished_19 rfl (lv_at hl 1 rfl) ?_
      obtain ⟨S3, h⟩ := h
      obtain ⟨hp4, h⟩ := h
      refine mc_v (va_runV (As := [.int a1]) (rest := []) ⟨hx, hb, hml, hown, htb⟩ (C_M_make l D ca ad S3 I0 J0 a1 hp4) (cwV 1 htb (gd_v k3_47 k3_49 ks21 k1_8 k3_50) rfl rfl rfl (by decide +kernel) ⟨Nat.le_of_ble_eq_true rfl, Nat.le_of_ble_eq_true rfl⟩) (mPre_V hK hP hD hN rfl (mw_at (by decide) (ym_0 _ _ _ _))) rfl rfl hl.1 rfl (lv_room (Nat.le_of_ble_eq_true rfl)) dM_punished_20 ⟨Nat.le_of_ble_eq_true rfl, Nat.le_of_ble_eq_true rfl⟩) hS (fun I6 J7 H locs hpost hP hS => ?_)
      have h := h I6 J7 hpost
      refine lv_aload_n hx hb dM_punished_23 rfl (lv_at hl 0 rfl) ?_
      refine va_get (D := D) (ci := 6) (v := .ref (ad 19)) (C := RM) (T := TM) (N := 33) hx hb htb inM hown hK hP 0 (mw_at (by decide) (ym_0 _ _ _ _)) rfl 25 (by decide) (htb _ k2_197) (fun _ h9 => h9) rfl dM_punished_24 ?_
      refine lv_iload_n hx hb dM_punished_27 rfl (lv_at hl 2 rfl) ?_
      obtain ⟨hn8, h⟩ := h
      refine mr_zald hx hb hK hP 19 1 (by decide) rfl rfl hn8 dM_punished_28 ?_
      obtain ⟨hq9, h⟩ := h
      exact me_z hx hb hr hlk hP hS hq9 h dM_punished_29
    · have h := h.2 hc
      refine lv_iconst (v := 0) hx hb dM_punished_16 (by decide) ?_
      exact me_z hx hb hr hlk hP hS rfl h dM_punished_17
def wp_M_counted (R : Int32 → mI → mJ → Prop) (I0 : mI) (J0 : mJ) (a1 : Int32) (a2 : Int32) : Prop :=
  ((¬ ((fM_isBlock I0 J0 a1) = 0) → (∃ (S2 : mI), (pM_make S2 I0 J0 a1 ∧ (∀ (I5 : mI) (J6 : mJ), qM_make S2 I0 J0 a1 I5 J6 → ((¬ (a2 = (I5 0 23)) → ((¬ (a2 = ((I5 0 23) - 1)) → R 0 I5 J6) ∧ (a2 = ((I5 0 23) - 1) → (∃ (S7 : mI), (pM_weightOf S7 I5 J6 0 ∧ R (fM_weightOf S7 I5 J6 0) I5 J6))))) ∧ (a2 = (I5 0 23) → (∃ (S9 : mI), (pM_weightOf S9 I5 J6 1 ∧ R (fM_weightOf S9 I5 J6 1) I5 J6)))))))) ∧ ((fM_isBlock I0 J0 a1) = 0 → R (-1) I0 J0))
theorem P_M_counted (S : mI) (I0 : mI) (J0 : mJ) (a1 : Int32) (a2 : Int32)  (hp : pY2 S I0 J0 a1 a2)  (R : Int32 → mI → mJ → Prop)  (hR : ∀ (r : Int32) (I' : mI) (J' : mJ), qM_counted S I0 J0 a1 a2 r I' J' → R r I' J') : wp_M_counted R I0 J0 a1 a2 := by
  have hY : YR S I0 := hp
  have hb := hY.1.b
  have hR : ∀ I' J', RY S I' → R (rCtd S a1 a2) I' J' := fun I' J' h => hR _ I' J' ⟨rfl, h⟩
  unfold rCtd at hR
  unfold wp_M_counted
  refine ⟨fun h => ?_, fun h => ?_⟩
  · have h1 : iBl S a1 := nn (fun q => h (hY.isB.mpr q))
    rw [if_neg (fun q => q h1)] at hR
    obtain ⟨n, hn, rfl⟩ := hY.1.iB h1
    rw [cN_nI (by omega)] at hR
    refine ⟨S, ⟨hY, ⟨n, hn, rfl⟩⟩, fun I10 J11 hq => ?_⟩
    obtain ⟨-, hg, hE⟩ := hq
    rw [cN_nI (by omega)] at hE
    have hR := hR I10 J11 (hY.g hg).2
    rw [hE.2.1]
    refine ⟨fun q1 => ⟨fun q2 => ?_, fun q2 => ⟨S, hY.g hg, ?_⟩⟩, fun q1 => ⟨S, hY.g hg, ?_⟩⟩
    · rw [if_neg q1, if_neg q2] at hR
      exact hR
    · rw [if_neg q1, if_pos q2] at hR
      unfold fM_weightOf
      rw [zSum_congr S (g := gO (gS S n)) (zNv S) (fun w hw => bz_nn (by rw [if_pos rfl]; exact (hE.1 w (by omega)).2.2.2))]
      exact hR
    · rw [if_pos q1] at hR
      unfold fM_weightOf
      rw [zSum_congr S (g := gN (gS S n)) (zNv S) (fun w hw => bz_nn (by rw [if_neg (by decide)]; exact (hE.1 w (by omega)).2.2.1))]
      exact hR
  · rw [if_pos (hY.isB.mp h)] at hR
    exact hR I0 J0 hY.2
set_option maxHeartbeats 4000000 in
set_option maxRecDepth 100000 in
theorem C_M_counted (l : Launch) (D : va_G) (ca : Nat → Nat) (ad : Nat → Nat) (S : mI) (I0 : mI) (J0 : mJ) (a1 : Int32) (a2 : Int32)  (hp : pY2 S I0 J0 a1 a2) : Met l yM_counted wM_counted ({ frames := 4, cells := 0, slots := 0, locals := 98 } : Room) (va_Pc [.ref (ad 0), .int a1, .int a2] (mPre D vwCl (xty ca) 23 ad (ymk ca ad) nL I0 J0)) (mQi D vwCl 23 ad (ymk ca ad) (qM_counted S I0 J0 a1 a2)) 0 0 (mA 23 ad) := by
  refine Met.ofW (cc := cM_counted) (maxL := 3) (ret := (some .int)) (by decide) rfl ?_
  intro p e s m args below meth c s₁ B hml hv
  obtain ⟨rfl, hP, hK, hD0, hN⟩ := hv
  have hx := B.exec
  have hb := B.bytes
  have hr := B.returns
  have htb : ∀ w ∈ wb, w.before _ s = true := fun w h => atoms_spec (ws := wM_counted) B.pre w (List.mem_cons_of_mem _ h)
  have hown : s.vm.findClass RM = some m.cls := findClass_of_methodNamed B.named
  have hlk := B.notSynchronized
  have hD := mw_Dm hD0
  have hS : va_S (mA 23 ad) s.heap s.heap [] := va_S.rf
  have hl := lv_entry ([.ref (ad 0), .int a1, .int a2]) (n := 3) (Nat.le_of_ble_eq_true rfl)
  rw [lg_entry_eq]
  generalize (lg_sl ([.ref (ad 0), .int a1, .int a2]) ++ List.replicate (3 - (lg_sl ([.ref (ad 0), .int a1, .int a2])).length) Slot.unset).toArray = ls at hl ⊢
  have hl : lv_has ls 3 [(0, .ref (ad 0)), (1, .int a1), (2, .int a2)] := hl
  have h := P_M_counted S I0 J0 a1 a2  hp  (qM_counted S I0 J0 a1 a2)  (fun _ _ _ h => h)
  unfold wp_M_counted at h
  refine lv_aload_n hx hb dM_counted_0 rfl (lv_at hl 0 rfl) ?_
  refine lv_iload_n hx hb dM_counted_1 rfl (lv_at hl 1 rfl) ?_
  refine mc_r (va_runV (As := [.int a1]) (rest := []) ⟨hx, hb, hml, hown, htb⟩ (C_M_isBlock l D ca ad I0 J0 a1) (cwV 1 htb (gd_v k3_40 k3_42 ks20 k1_8 k3_43) rfl rfl rfl (by decide +kernel) ⟨Nat.le_of_ble_eq_true rfl, Nat.le_of_ble_eq_true rfl⟩) (mPre_V hK hP hD hN rfl (mw_at (by decide) (ym_0 _ _ _ _))) rfl rfl hl.1 rfl (lv_room (Nat.le_of_ble_eq_true rfl)) dM_counted_2 ⟨Nat.le_of_ble_eq_true rfl, Nat.le_of_ble_eq_true rfl⟩) hS (fun H locs hP hS => ?_)
  refine lv_if_ne (tgt := 10) hx hb dM_counted_5 (by decide) (fun hc => ?_) (fun hc => ?_)
  · have h := h.1 hc
    refine lv_aload_n hx hb dM_counted_10 rfl (lv_at hl 0 rfl) ?_
    refine lv_iload_n hx hb dM_counted_11 rfl (lv_at hl 1 rfl) ?_
    obtain ⟨S2, h⟩ := h
    obtain ⟨hp3, h⟩ := h
    refine mc_v (va_runV (As := [.int a1]) (rest := []) ⟨hx, hb, hml, hown, htb⟩ (C_M_make l D ca ad S2 I0 J0 a1 hp3) (cwV 1 htb (gd_v k3_47 k3_49 ks21 k1_8 k3_50) rfl rfl rfl (by decide +kernel) ⟨Nat.le_of_ble_eq_true rfl, Nat.le_of_ble_eq_true rfl⟩) (mPre_V hK hP hD hN rfl (mw_at (by decide) (ym_0 _ _ _ _))) rfl rfl hl.1 rfl (lv_room (Nat.le_of_ble_eq_true rfl)) dM_counted_12 ⟨Nat.le_of_ble_eq_true rfl, Nat.le_of_ble_eq_true rfl⟩) hS (fun I5 J6 H locs hpost hP hS => ?_)
    have h := h I5 J6 hpost
    refine lv_iload_n hx hb dM_counted_15 rfl (lv_at hl 2 rfl) ?_
    refine lv_aload_n hx hb dM_counted_16 rfl (lv_at hl 0 rfl) ?_
    refine va_get (D := D) (ci := 6) (v := .int (I5 0 23)) (C := RM) (T := TM) (N := 33) hx hb htb inM hown hK hP 0 (mw_at (by decide) (ym_0 _ _ _ _)) rfl 23 (by decide) (htb _ k2_195) (fun _ h9 => h9) rfl dM_counted_17 ?_
    refine lv_icmp_ne (tgt := 31) hx hb dM_counted_20 (by decide) (fun hc => ?_) (fun hc => ?_)
    · have h := h.1 hc
      refine lv_iload_n hx hb dM_counted_31 rfl (lv_at hl 2 rfl) ?_
      refine lv_aload_n hx hb dM_counted_32 rfl (lv_at hl 0 rfl) ?_
      refine va_get (D := D) (ci := 6) (v := .int (I5 0 23)) (C := RM) (T := TM) (N := 33) hx hb htb inM hown hK hP 0 (mw_at (by decide) (ym_0 _ _ _ _)) rfl 23 (by decide) (htb _ k2_195) (fun _ h9 => h9) rfl dM_counted_33 ?_
      refine lv_iconst (v := 1) hx hb dM_counted_36 (by decide) ?_
      refine lv_isub hx hb dM_counted_37 ?_
      refine lv_icmp_ne (tgt := 49) hx hb dM_counted_38 (by decide) (fun hc => ?_) (fun hc => ?_)
      · have h := h.1 hc
        refine lv_iconst (v := 0) hx hb dM_counted_49 (by decide) ?_
        exact me_i hx hb hr hlk hP hS h dM_counted_50
      · have h := h.2 hc
        refine lv_aload_n hx hb dM_counted_41 rfl (lv_at hl 0 rfl) ?_
        refine lv_iconst (v := 0) hx hb dM_counted_42 (by decide) ?_
        obtain ⟨S7, h⟩ := h
        obtain ⟨hp8, h⟩ := h
        refine mc_r (va_runV (As := [.int 0]) (rest := []) ⟨hx, hb, hml, hown, htb⟩ (C_M_weightOf l D ca ad S7 I5 J6 0 hp8) (cwV 1 htb (gd_v k3_79 k3_81 ks29 k1_8 k3_82) rfl rfl rfl (by decide +kernel) ⟨Nat.le_of_ble_eq_true rfl, Nat.le_of_ble_eq_true rfl⟩) (mPre_V hK hP hD hN rfl (mw_at (by decide) (ym_0 _ _ _ _))) rfl rfl hl.1 rfl (lv_room (Nat.le_of_ble_eq_true rfl)) dM_counted_43 ⟨Nat.le_of_ble_eq_true rfl, Nat.le_of_ble_eq_true rfl⟩) hS (fun H locs hP hS => ?_)
        refine lv_goto (tgt := 50) hx hb dM_counted_46 (by decide) ?_
        exact me_i hx hb hr hlk hP hS h dM_counted_50
    · have h := h.2 hc
      refine lv_aload_n hx hb dM_counted_23 rfl (lv_at hl 0 rfl) ?_
      refine lv_iconst (v := 1) hx hb dM_counted_24 (by decide) ?_
      obtain ⟨S9, h⟩ := h
      obtain ⟨hp10, h⟩ := h
      refine mc_r (va_runV (As := [.int 1]) (rest := []) ⟨hx, hb, hml, hown, htb⟩ (C_M_weightOf l D ca ad S9 I5 J6 1 hp10) (cwV 1 htb (gd_v k3_79 k3_81 ks29 k1_8 k3_82) rfl rfl rfl (by decide +kernel) ⟨Nat.le_of_ble_eq_true rfl, Nat.le_of_ble_eq_true rfl⟩) (mPre_V hK hP hD hN rfl (mw_at (by decide) (ym_0 _ _ _ _))) rfl rfl hl.1 rfl (lv_room (Nat.le_of_ble_eq_true rfl)) dM_counted_25 ⟨Nat.le_of_ble_eq_true rfl, Nat.le_of_ble_eq_true rfl⟩) hS (fun H locs hP hS => ?_)
      refine lv_goto (tgt := 50) hx hb dM_counted_28 (by decide) ?_
      exact me_i hx hb hr hlk hP hS h dM_counted_50
  · have h := h.2 hc
    refine lv_iconst (v := (-1)) hx hb dM_counted_8 (by decide) ?_
    exact me_i hx hb hr hlk hP hS h dM_counted_9
def wp_M_append (R : Int32 → mI → mJ → Prop) (I0 : mI) (J0 : mJ) (a1 : Int32) : Prop :=
  ((¬ ((I0 0 9) = 4) → (vp_in (I0 0 9) 4 ∧ (∀ (I2 : mI), I2 = mu I0 6 (I0 0 9).toNatClampNeg a1 → (∀ (I3 : mI), I3 = mu I2 0 9 ((I2 0 9) + 1) → R (I3 0 9) I3 J0)))) ∧ ((I0 0 9) = 4 → R (-2) I0 J0))
theorem P_M_append (S : mI) (I0 : mI) (J0 : mJ) (a1 : Int32)  (hp : pY1 S I0 J0 a1)  (R : Int32 → mI → mJ → Prop)  (hR : ∀ (r : Int32) (I' : mI) (J' : mJ), qM_append S I0 J0 a1 r I' J' → R r I' J') : wp_M_append R I0 J0 a1 := by
  have hY : YR S I0 := hp
  have hb := hY.1.b
  have hR : ∀ I' J', RY (oApp S a1).2 I' → R (oApp S a1).1 I' J' := fun I' J' h => hR _ I' J' ⟨rfl, h⟩
  unfold oApp at hR
  unfold wp_M_append
  rw [hY.pc, show (4 : Int32) = nI 4 from rfl, nI_eq (by omega) (by omega), ic (by omega)]
  refine ⟨fun h => ⟨iin (by omega) (by omega), fun I2 e2 I3 e3 => ?_⟩, fun h => ?_⟩
  · rw [if_neg h] at hR
    have r2 : I2 0 9 = nI (zPc S) := by rw [e2, mu_other _ _ _ (by omega)]; exact hY.pc
    rw [r2, nI_1] at e3
    have r3 : I3 0 9 = nI (zPc S + 1) := by rw [e3, mu_at, if_pos ⟨rfl, rfl⟩]
    rw [r3]
    refine hR I3 J0 ?_
    rw [e3, e2]
    exact (hY.2.mu _ _ _).mu _ _ _
  · rw [if_pos h] at hR
    exact hR I0 J0 hY.2
set_option maxHeartbeats 4000000 in
set_option maxRecDepth 100000 in
theorem C_M_append (l : Launch) (D : va_G) (ca : Nat → Nat) (ad : Nat → Nat) (S : mI) (I0 : mI) (J0 : mJ) (a1 : Int32)  (hp : pY1 S I0 J0 a1) : Met l yM_append wM_append ({ frames := 0, cells := 0, slots := 0, locals := 0 } : Room) (va_Pc [.ref (ad 0), .int a1] (mPre D vwCl (xty ca) 23 ad (ymk ca ad) nL I0 J0)) (mQi D vwCl 23 ad (ymk ca ad) (qM_append S I0 J0 a1)) 0 0 (mA 23 ad) := by
  refine Met.ofW (cc := cM_append) (maxL := 2) (ret := (some .int)) (by decide) rfl ?_
  intro p e s m args below meth c s₁ B hml hv
  obtain ⟨rfl, hP, hK, hD0, hN⟩ := hv
  have hx := B.exec
  have hb := B.bytes
  have hr := B.returns
  have htb : ∀ w ∈ wb, w.before _ s = true := fun w h => atoms_spec (ws := wM_append) B.pre w (List.mem_cons_of_mem _ h)
  have hown : s.vm.findClass RM = some m.cls := findClass_of_methodNamed B.named
  have hlk := B.notSynchronized
  have hD := mw_Dm hD0
  have hS : va_S (mA 23 ad) s.heap s.heap [] := va_S.rf
  have hl := lv_entry ([.ref (ad 0), .int a1]) (n := 2) (Nat.le_of_ble_eq_true rfl)
  rw [lg_entry_eq]
  generalize (lg_sl ([.ref (ad 0), .int a1]) ++ List.replicate (2 - (lg_sl ([.ref (ad 0), .int a1])).length) Slot.unset).toArray = ls at hl ⊢
  have hl : lv_has ls 2 [(0, .ref (ad 0)), (1, .int a1)] := hl
  have h := P_M_append S I0 J0 a1  hp  (qM_append S I0 J0 a1)  (fun _ _ _ h => h)
  unfold wp_M_append at h
  refine lv_aload_n hx hb dM_append_0 rfl (lv_at hl 0 rfl) ?_
  refine va_get (D := D) (ci := 6) (v := .int (I0 0 9)) (C := RM) (T := TM) (N := 33) hx hb htb inM hown hK hP 0 (mw_at (by decide) (ym_0 _ _ _ _)) rfl 9 (by decide) (htb _ k2_181) (fun _ h9 => h9) rfl dM_append_1 ?_
  refine lv_iconst (v := 4) hx hb dM_append_4 (by decide) ?_
  refine lv_icmp_ne (tgt := 11) hx hb dM_append_5 (by decide) (fun hc => ?_) (fun hc => ?_)
  · have h := h.1 hc
    refine lv_aload_n hx hb dM_append_11 rfl (lv_at hl 0 rfl) ?_
    refine va_get (D := D) (ci := 6) (v := .ref (ad 6)) (C := RM) (T := TM) (N := 33) hx hb htb inM hown hK hP 0 (mw_at (by decide) (ym_0 _ _ _ _)) rfl 10 (by decide) (htb _ k2_182) (fun _ h9 => h9) rfl dM_append_12 ?_
    refine lv_aload_n hx hb dM_append_15 rfl (lv_at hl 0 rfl) ?_
    refine va_get (D := D) (ci := 6) (v := .int (I0 0 9)) (C := RM) (T := TM) (N := 33) hx hb htb inM hown hK hP 0 (mw_at (by decide) (ym_0 _ _ _ _)) rfl 9 (by decide) (htb _ k2_181) (fun _ h9 => h9) rfl dM_append_16 ?_
    refine lv_iload_n hx hb dM_append_19 rfl (lv_at hl 1 rfl) ?_
    obtain ⟨hn1, h⟩ := h
    refine mr_iast hx hb hK hP hD hS 6 0 (by decide) (fun _ => rfl) rfl hn1 dM_append_20 (fun H locs hP hS => ?_)
    generalize heI2 : mu I0 6 (I0 0 9).toNatClampNeg a1 = I2 at hP
    have h := h I2 heI2.symm
    refine lv_aload_n hx hb dM_append_21 rfl (lv_at hl 0 rfl) ?_
    refine lv_dup hx hb dM_append_22 rfl ?_
    refine va_get (D := D) (ci := 6) (v := .int (I2 0 9)) (C := RM) (T := TM) (N := 33) hx hb htb inM hown hK hP 0 (mw_at (by decide) (ym_0 _ _ _ _)) rfl 9 (by decide) (htb _ k2_181) (fun _ h9 => h9) rfl dM_append_23 ?_
    refine lv_iconst (v := 1) hx hb dM_append_26 (by decide) ?_
    refine lv_iadd hx hb dM_append_27 ?_
    refine mr_puti hx hb htb inM tyM tyM_ok nmM hown hK hP hD hS 0 (by decide) (ym_0 _ _ _ _) rfl 9 (by decide) (htb _ k2_181) (fun _ h9 => h9) rfl (by decide +kernel) (Nat.le_of_ble_eq_true rfl) (ym_p9 _ _ _ _ _) dM_append_28 (fun H locs hP hS => ?_)
    generalize heI3 : mu I2 0 9 ((I2 0 9) + 1) = I3 at hP
    have h := h I3 heI3.symm
    refine lv_aload_n hx hb dM_append_31 rfl (lv_at hl 0 rfl) ?_
    refine va_get (D := D) (ci := 6) (v := .int (I3 0 9)) (C := RM) (T := TM) (N := 33) hx hb htb inM hown hK hP 0 (mw_at (by decide) (ym_0 _ _ _ _)) rfl 9 (by decide) (htb _ k2_181) (fun _ h9 => h9) rfl dM_append_32 ?_
    exact me_i hx hb hr hlk hP hS h dM_append_35
  · have h := h.2 hc
    refine lv_bipush (v := (-2)) hx hb dM_append_8 (by decide) ?_
    exact me_i hx hb hr hlk hP hS h dM_append_10
def wp_M_include (R : Int32 → mI → mJ → Prop) (I0 : mI) (J0 : mJ) (a1 : Int32) : Prop :=
  (((fM_isVote I0 J0 a1) = 0 → R (-1) I0 J0) ∧ (¬ ((fM_isVote I0 J0 a1) = 0) → (∃ (S2 : mI), (pY1 S2 I0 J0 a1 ∧ (∀ (r4 : Int32) (I5 : mI) (J6 : mJ), qM_append S2 I0 J0 a1 r4 I5 J6 → R r4 I5 J6)))))
theorem P_M_include (S : mI) (I0 : mI) (J0 : mJ) (a1 : Int32)  (hp : pY1 S I0 J0 a1)  (R : Int32 → mI → mJ → Prop)  (hR : ∀ (r : Int32) (I' : mI) (J' : mJ), qM_include S I0 J0 a1 r I' J' → R r I' J') : wp_M_include R I0 J0 a1 := by
  have hY : YR S I0 := hp
  have hb := hY.1.b
  have hR : ∀ I' J', RY (oInc S a1).2 I' → R (oInc S a1).1 I' J' := fun I' J' h => hR _ I' J' ⟨rfl, h⟩
  unfold oInc at hR
  unfold wp_M_include
  refine ⟨fun h => ?_, fun h => ⟨S, hY, fun r I' J' hq => ?_⟩⟩
  · rw [if_neg (hY.isV.mp h)] at hR
    exact hR I0 J0 hY.2
  · have h1 : iVt S a1 := nn (fun q => h (hY.isV.mpr q))
    rw [if_pos h1] at hR
    obtain ⟨rfl, h2⟩ := hq
    exact hR I' J' h2
set_option maxHeartbeats 4000000 in
set_option maxRecDepth 100000 in
theorem C_M_include (l : Launch) (D : va_G) (ca : Nat → Nat) (ad : Nat → Nat) (S : mI) (I0 : mI) (J0 : mJ) (a1 : Int32)  (hp : pY1 S I0 J0 a1) : Met l yM_include wM_include ({ frames := 1, cells := 0, slots := 0, locals := 21 } : Room) (va_Pc [.ref (ad 0), .int a1] (mPre D vwCl (xty ca) 23 ad (ymk ca ad) nL I0 J0)) (mQi D vwCl 23 ad (ymk ca ad) (qM_include S I0 J0 a1)) 0 0 (mA 23 ad) := by
  refine Met.ofW (cc := cM_include) (maxL := 2) (ret := (some .int)) (by decide) rfl ?_
  intro p e s m args below meth c s₁ B hml hv
  obtain ⟨rfl, hP, hK, hD0, hN⟩ := hv
  have hx := B.exec
  have hb := B.bytes
  have hr := B.returns
  have htb : ∀ w ∈ wb, w.before _ s = true := fun w h => atoms_spec (ws := wM_include) B.pre w (List.mem_cons_of_mem _ h)
  have hown : s.vm.findClass RM = some m.cls := findClass_of_methodNamed B.named
  have hlk := B.notSynchronized
  have hD := mw_Dm hD0
  have hS : va_S (mA 23 ad) s.heap s.heap [] := va_S.rf
  have hl := lv_entry ([.ref (ad 0), .int a1]) (n := 2) (Nat.le_of_ble_eq_true rfl)
  rw [lg_entry_eq]
  generalize (lg_sl ([.ref (ad 0), .int a1]) ++ List.replicate (2 - (lg_sl ([.ref (ad 0), .int a1])).length) Slot.unset).toArray = ls at hl ⊢
  have hl : lv_has ls 2 [(0, .ref (ad 0)), (1, .int a1)] := hl
  have h := P_M_include S I0 J0 a1  hp  (qM_include S I0 J0 a1)  (fun _ _ _ h => h)
  unfold wp_M_include at h
  refine lv_aload_n hx hb dM_include_0 rfl (lv_at hl 0 rfl) ?_
  refine lv_iload_n hx hb dM_include_1 rfl (lv_at hl 1 rfl) ?_
  refine mc_r (va_runV (As := [.int a1]) (rest := []) ⟨hx, hb, hml, hown, htb⟩ (C_M_isVote l D ca ad I0 J0 a1) (cwV 1 htb (gd_v k3_87 k3_89 ks30 k1_8 k3_90) rfl rfl rfl (by decide +kernel) ⟨Nat.le_of_ble_eq_true rfl, Nat.le_of_ble_eq_true rfl⟩) (mPre_V hK hP hD hN rfl (mw_at (by decide) (ym_0 _ _ _ _))) rfl rfl hl.1 rfl (lv_room (Nat.le_of_ble_eq_true rfl)) dM_include_2 ⟨Nat.le_of_ble_eq_true rfl, Nat.le_of_ble_eq_true rfl⟩) hS (fun H locs hP hS => ?_)
  refine lv_if_eq (tgt := 16) hx hb dM_include_5 (by decide) (fun hc => ?_) (fun hc => ?_)
  · have h := h.1 hc
    refine lv_iconst (v := (-1)) hx hb dM_include_16 (by decide) ?_
    exact me_i hx hb hr hlk hP hS h dM_include_17
  · have h := h.2 hc
    refine lv_aload_n hx hb dM_include_8 rfl (lv_at hl 0 rfl) ?_
    refine lv_iload_n hx hb dM_include_9 rfl (lv_at hl 1 rfl) ?_
    obtain ⟨S2, h⟩ := h
    obtain ⟨hp3, h⟩ := h
    refine mc_i (va_runV (As := [.int a1]) (rest := []) ⟨hx, hb, hml, hown, htb⟩ (C_M_append l D ca ad S2 I0 J0 a1 hp3) (cwV 1 htb (gd_v k3_91 k3_93 ks31 k1_8 k3_94) rfl rfl rfl (by decide +kernel) ⟨Nat.le_of_ble_eq_true rfl, Nat.le_of_ble_eq_true rfl⟩) (mPre_V hK hP hD hN rfl (mw_at (by decide) (ym_0 _ _ _ _))) rfl rfl hl.1 rfl (lv_room (Nat.le_of_ble_eq_true rfl)) dM_include_10 ⟨Nat.le_of_ble_eq_true rfl, Nat.le_of_ble_eq_true rfl⟩) hS (fun r4 I5 J6 H locs hpost hP hS => ?_)
    have h := h r4 I5 J6 hpost
    refine lv_goto (tgt := 17) hx hb dM_include_13 (by decide) ?_
    exact me_i hx hb hr hlk hP hS h dM_include_17
def wp_M_accuse (R : Int32 → mI → mJ → Prop) (I0 : mI) (J0 : mJ) (a1 : Int32) (a2 : Int32) : Prop :=
  (((fM_isVote I0 J0 a1) = 0 → R (-1) I0 J0) ∧ (¬ ((fM_isVote I0 J0 a1) = 0) → ((¬ ((fM_isVote I0 J0 a2) = 0) → (∃ (S3 : mI), (pM_clash S3 I0 J0 a1 a2 ∧ (((fM_clash S3 I0 J0 a1 a2) = 0 → R (-3) I0 J0) ∧ (¬ ((fM_clash S3 I0 J0 a1 a2) = 0) → (∃ (S5 : mI), (pY1 S5 I0 J0 (a1 + (100 * (a2 + 1))) ∧ (∀ (r7 : Int32) (I8 : mI) (J9 : mJ), qM_append S5 I0 J0 (a1 + (100 * (a2 + 1))) r7 I8 J9 → R r7 I8 J9)))))))) ∧ ((fM_isVote I0 J0 a2) = 0 → R (-1) I0 J0))))
theorem P_M_accuse (S : mI) (I0 : mI) (J0 : mJ) (a1 : Int32) (a2 : Int32)  (hp : pY2 S I0 J0 a1 a2)  (R : Int32 → mI → mJ → Prop)  (hR : ∀ (r : Int32) (I' : mI) (J' : mJ), qM_accuse S I0 J0 a1 a2 r I' J' → R r I' J') : wp_M_accuse R I0 J0 a1 a2 := by
  have hY : YR S I0 := hp
  have hb := hY.1.b
  have hR : ∀ I' J', RY (oAcc S a1 a2).2 I' → R (oAcc S a1 a2).1 I' J' := fun I' J' h => hR _ I' J' ⟨rfl, h⟩
  unfold oAcc at hR
  unfold wp_M_accuse
  refine ⟨fun h => ?_, fun h => ⟨fun h2 => ?_, fun h2 => ?_⟩⟩
  · rw [if_pos (Or.inl (hY.isV.mp h))] at hR
    exact hR I0 J0 hY.2
  · have h1 : iVt S a1 := nn (fun q => h (hY.isV.mpr q))
    have h3 : iVt S a2 := nn (fun q => h2 (hY.isV.mpr q))
    rw [if_neg (fun q => q.elim (fun z => z h1) (fun z => z h3))] at hR
    obtain ⟨i, hi, rfl⟩ := hY.1.iV h1
    obtain ⟨j, hj, rfl⟩ := hY.1.iV h3
    unfold fM_clash
    rw [cN_nI (by omega), cN_nI (by omega)] at hR ⊢
    rw [nI_1, show (100 : Int32) = nI 100 from rfl, pk_mul, nI_add]
    refine ⟨S, ⟨hY, ⟨i, hi, rfl⟩, ⟨j, hj, rfl⟩⟩, fun z => ?_, fun z => ⟨S, hY, fun r I' J' hq => ?_⟩⟩
    · rw [if_neg (by rw [bz_0.mp z]; decide)] at hR
      exact hR I0 J0 hY.2
    · rw [if_pos (bz_n0.mp z)] at hR
      obtain ⟨rfl, h2⟩ := hq
      exact hR I' J' h2
  · rw [if_pos (Or.inr (hY.isV.mp h2))] at hR
    exact hR I0 J0 hY.2
set_option maxHeartbeats 4000000 in
set_option maxRecDepth 100000 in
theorem C_M_accuse (l : Launch) (D : va_G) (ca : Nat → Nat) (ad : Nat → Nat) (S : mI) (I0 : mI) (J0 : mJ) (a1 : Int32) (a2 : Int32)  (hp : pY2 S I0 J0 a1 a2) : Met l yM_accuse wM_accuse ({ frames := 1, cells := 0, slots := 0, locals := 24 } : Room) (va_Pc [.ref (ad 0), .int a1, .int a2] (mPre D vwCl (xty ca) 23 ad (ymk ca ad) nL I0 J0)) (mQi D vwCl 23 ad (ymk ca ad) (qM_accuse S I0 J0 a1 a2)) 0 0 (mA 23 ad) := by
  refine Met.ofW (cc := cM_accuse) (maxL := 3) (ret := (some .int)) (by decide) rfl ?_
  intro p e s m args below meth c s₁ B hml hv
  obtain ⟨rfl, hP, hK, hD0, hN⟩ := hv
  have hx := B.exec
  have hb := B.bytes
  have hr := B.returns
  have htb : ∀ w ∈ wb, w.before _ s = true := fun w h => atoms_spec (ws := wM_accuse) B.pre w (List.mem_cons_of_mem _ h)
  have hown : s.vm.findClass RM = some m.cls := findClass_of_methodNamed B.named
  have hlk := B.notSynchronized
  have hD := mw_Dm hD0
  have hS : va_S (mA 23 ad) s.heap s.heap [] := va_S.rf
  have hl := lv_entry ([.ref (ad 0), .int a1, .int a2]) (n := 3) (Nat.le_of_ble_eq_true rfl)
  rw [lg_entry_eq]
  generalize (lg_sl ([.ref (ad 0), .int a1, .int a2]) ++ List.replicate (3 - (lg_sl ([.ref (ad 0), .int a1, .int a2])).length) Slot.unset).toArray = ls at hl ⊢
  have hl : lv_has ls 3 [(0, .ref (ad 0)), (1, .int a1), (2, .int a2)] := hl
  have h := P_M_accuse S I0 J0 a1 a2  hp  (qM_accuse S I0 J0 a1 a2)  (fun _ _ _ h => h)
  unfold wp_M_accuse at h
  refine lv_aload_n hx hb dM_accuse_0 rfl (lv_at hl 0 rfl) ?_
  refine lv_iload_n hx hb dM_accuse_1 rfl (lv_at hl 1 rfl) ?_
  refine mc_r (va_runV (As := [.int a1]) (rest := []) ⟨hx, hb, hml, hown, htb⟩ (C_M_isVote l D ca ad I0 J0 a1) (cwV 1 htb (gd_v k3_87 k3_89 ks30 k1_8 k3_90) rfl rfl rfl (by decide +kernel) ⟨Nat.le_of_ble_eq_true rfl, Nat.le_of_ble_eq_true rfl⟩) (mPre_V hK hP hD hN rfl (mw_at (by decide) (ym_0 _ _ _ _))) rfl rfl hl.1 rfl (lv_room (Nat.le_of_ble_eq_true rfl)) dM_accuse_2 ⟨Nat.le_of_ble_eq_true rfl, Nat.le_of_ble_eq_true rfl⟩) hS (fun H locs hP hS => ?_)
  refine lv_if_eq (tgt := 16) hx hb dM_accuse_5 (by decide) (fun hc => ?_) (fun hc => ?_)
  · have h := h.1 hc
    refine lv_iconst (v := (-1)) hx hb dM_accuse_16 (by decide) ?_
    exact me_i hx hb hr hlk hP hS h dM_accuse_17
  · have h := h.2 hc
    refine lv_aload_n hx hb dM_accuse_8 rfl (lv_at hl 0 rfl) ?_
    refine lv_iload_n hx hb dM_accuse_9 rfl (lv_at hl 2 rfl) ?_
    refine mc_r (va_runV (As := [.int a2]) (rest := []) ⟨hx, hb, hml, hown, htb⟩ (C_M_isVote l D ca ad I0 J0 a2) (cwV 1 htb (gd_v k3_87 k3_89 ks30 k1_8 k3_90) rfl rfl rfl (by decide +kernel) ⟨Nat.le_of_ble_eq_true rfl, Nat.le_of_ble_eq_true rfl⟩) (mPre_V hK hP hD hN rfl (mw_at (by decide) (ym_0 _ _ _ _))) rfl rfl hl.1 rfl (lv_room (Nat.le_of_ble_eq_true rfl)) dM_accuse_10 ⟨Nat.le_of_ble_eq_true rfl, Nat.le_of_ble_eq_true rfl⟩) hS (fun H locs hP hS => ?_)
    refine lv_if_ne (tgt := 18) hx hb dM_accuse_13 (by decide) (fun hc => ?_) (fun hc => ?_)
    · have h := h.1 hc
      refine lv_aload_n hx hb dM_accuse_18 rfl (lv_at hl 0 rfl) ?_
      refine lv_iload_n hx hb dM_accuse_19 rfl (lv_at hl 1 rfl) ?_
      refine lv_iload_n hx hb dM_accuse_20 rfl (lv_at hl 2 rfl) ?_
      obtain ⟨S3, h⟩ := h
      obtain ⟨hp4, h⟩ := h
      refine mc_r (va_runV (As := [.int a1, .int a2]) (rest := []) ⟨hx, hb, hml, hown, htb⟩ (C_M_clash l D ca ad S3 I0 J0 a1 a2 hp4) (cwV 2 htb (gd_v k3_99 k3_101 ks32 k1_8 k3_102) rfl rfl rfl (by decide +kernel) ⟨Nat.le_of_ble_eq_true rfl, Nat.le_of_ble_eq_true rfl⟩) (mPre_V hK hP hD hN rfl (mw_at (by decide) (ym_0 _ _ _ _))) rfl rfl hl.1 rfl (lv_room (Nat.le_of_ble_eq_true rfl)) dM_accuse_21 ⟨Nat.le_of_ble_eq_true rfl, Nat.le_of_ble_eq_true rfl⟩) hS (fun H locs hP hS => ?_)
      refine lv_if_eq (tgt := 42) hx hb dM_accuse_24 (by decide) (fun hc => ?_) (fun hc => ?_)
      · have h := h.1 hc
        refine lv_bipush (v := (-3)) hx hb dM_accuse_42 (by decide) ?_
        exact me_i hx hb hr hlk hP hS h dM_accuse_44
      · have h := h.2 hc
        refine lv_aload_n hx hb dM_accuse_27 rfl (lv_at hl 0 rfl) ?_
        refine lv_iload_n hx hb dM_accuse_28 rfl (lv_at hl 1 rfl) ?_
        refine lv_bipush (v := 100) hx hb dM_accuse_29 (by decide) ?_
        refine lv_iload_n hx hb dM_accuse_31 rfl (lv_at hl 2 rfl) ?_
        refine lv_iconst (v := 1) hx hb dM_accuse_32 (by decide) ?_
        refine lv_iadd hx hb dM_accuse_33 ?_
        refine lv_imul hx hb dM_accuse_34 ?_
        refine lv_iadd hx hb dM_accuse_35 ?_
        obtain ⟨S5, h⟩ := h
        obtain ⟨hp6, h⟩ := h
        refine mc_i (va_runV (As := [.int (a1 + (100 * (a2 + 1)))]) (rest := []) ⟨hx, hb, hml, hown, htb⟩ (C_M_append l D ca ad S5 I0 J0 (a1 + (100 * (a2 + 1))) hp6) (cwV 1 htb (gd_v k3_91 k3_93 ks31 k1_8 k3_94) rfl rfl rfl (by decide +kernel) ⟨Nat.le_of_ble_eq_true rfl, Nat.le_of_ble_eq_true rfl⟩) (mPre_V hK hP hD hN rfl (mw_at (by decide) (ym_0 _ _ _ _))) rfl rfl hl.1 rfl (lv_room (Nat.le_of_ble_eq_true rfl)) dM_accuse_36 ⟨Nat.le_of_ble_eq_true rfl, Nat.le_of_ble_eq_true rfl⟩) hS (fun r7 I8 J9 H locs hpost hP hS => ?_)
        have h := h r7 I8 J9 hpost
        refine lv_goto (tgt := 44) hx hb dM_accuse_39 (by decide) ?_
        exact me_i hx hb hr hlk hP hS h dM_accuse_44
    · have h := h.2 hc
      refine lv_iconst (v := (-1)) hx hb dM_accuse_16 (by decide) ?_
      exact me_i hx hb hr hlk hP hS h dM_accuse_17
def wp_M_clear (R : Int32 → mI → mJ → Prop) (I0 : mI) (J0 : mJ)  : Prop :=
  (∀ (I1 : mI), I1 = mu I0 0 9 0 → R (I0 0 9) I1 J0)
theorem P_M_clear (S : mI) (I0 : mI) (J0 : mJ)   (hp : pY0 S I0 J0)  (R : Int32 → mI → mJ → Prop)  (hR : ∀ (r : Int32) (I' : mI) (J' : mJ), qM_clear S I0 J0 r I' J' → R r I' J') : wp_M_clear R I0 J0  := by
  have hY : YR S I0 := hp
  have hb := hY.1.b
  have hR : ∀ I' J', RY (oClr S).2 I' → R (oClr S).1 I' J' := fun I' J' h => hR _ I' J' ⟨rfl, h⟩
  unfold oClr at hR
  unfold wp_M_clear
  intro I1 e1
  rw [hY.2.2.2.2.2.2.1]
  refine hR I1 J0 ?_
  rw [e1]
  exact hY.2.mu _ _ _
set_option maxHeartbeats 4000000 in
set_option maxRecDepth 100000 in
theorem C_M_clear (l : Launch) (D : va_G) (ca : Nat → Nat) (ad : Nat → Nat) (S : mI) (I0 : mI) (J0 : mJ)   (hp : pY0 S I0 J0) : Met l yM_clear wM_clear ({ frames := 0, cells := 0, slots := 0, locals := 0 } : Room) (va_Pc [.ref (ad 0)] (mPre D vwCl (xty ca) 23 ad (ymk ca ad) nL I0 J0)) (mQi D vwCl 23 ad (ymk ca ad) (qM_clear S I0 J0)) 0 0 (mA 23 ad) := by
  refine Met.ofW (cc := cM_clear) (maxL := 2) (ret := (some .int)) (by decide) rfl ?_
  intro p e s m args below meth c s₁ B hml hv
  obtain ⟨rfl, hP, hK, hD0, hN⟩ := hv
  have hx := B.exec
  have hb := B.bytes
  have hr := B.returns
  have htb : ∀ w ∈ wb, w.before _ s = true := fun w h => atoms_spec (ws := wM_clear) B.pre w (List.mem_cons_of_mem _ h)
  have hown : s.vm.findClass RM = some m.cls := findClass_of_methodNamed B.named
  have hlk := B.notSynchronized
  have hD := mw_Dm hD0
  have hS : va_S (mA 23 ad) s.heap s.heap [] := va_S.rf
  have hl := lv_entry ([.ref (ad 0)]) (n := 2) (Nat.le_of_ble_eq_true rfl)
  rw [lg_entry_eq]
  generalize (lg_sl ([.ref (ad 0)]) ++ List.replicate (2 - (lg_sl ([.ref (ad 0)])).length) Slot.unset).toArray = ls at hl ⊢
  have hl : lv_has ls 2 [(0, .ref (ad 0))] := hl
  have h := P_M_clear S I0 J0   hp  (qM_clear S I0 J0)  (fun _ _ _ h => h)
  unfold wp_M_clear at h
  refine lv_aload_n hx hb dM_clear_0 rfl (lv_at hl 0 rfl) ?_
  refine va_get (D := D) (ci := 6) (v := .int (I0 0 9)) (C := RM) (T := TM) (N := 33) hx hb htb inM hown hK hP 0 (mw_at (by decide) (ym_0 _ _ _ _)) rfl 9 (by decide) (htb _ k2_181) (fun _ h9 => h9) rfl dM_clear_1 ?_
  refine lv_istore_n (lv' := [(1, .int (I0 0 9)), (0, .ref (ad 0))]) hx hb dM_clear_4 rfl hl (by decide) rfl (fun ls hl => ?_)
  refine lv_aload_n hx hb dM_clear_5 rfl (lv_at hl 1 rfl) ?_
  refine lv_iconst (v := 0) hx hb dM_clear_6 (by decide) ?_
  refine mr_puti hx hb htb inM tyM tyM_ok nmM hown hK hP hD hS 0 (by decide) (ym_0 _ _ _ _) rfl 9 (by decide) (htb _ k2_181) (fun _ h9 => h9) rfl (by decide +kernel) (Nat.le_of_ble_eq_true rfl) (ym_p9 _ _ _ _ _) dM_clear_7 (fun H locs hP hS => ?_)
  generalize heI1 : mu I0 0 9 0 = I1 at hP
  have h := h I1 heI1.symm
  refine lv_iload_n hx hb dM_clear_10 rfl (lv_at hl 0 rfl) ?_
  exact me_i hx hb hr hlk hP hS h dM_clear_11
def wp_M_hear (R : Int32 → mI → mJ → Prop) (I0 : mI) (J0 : mJ) (a1 : Int32) (a2 : Int32) : Prop :=
  (((fM_isNode I0 J0 a1) = 0 → R 0 I0 J0) ∧ (¬ ((fM_isNode I0 J0 a1) = 0) → (((fM_isVote I0 J0 a2) = 0 → R 0 I0 J0) ∧ (¬ ((fM_isVote I0 J0 a2) = 0) → (vp_in ((80 * a1) + a2) 240 ∧ (((I0 15 ((80 * a1) + a2).toNatClampNeg) = 0 → (vp_in ((80 * a1) + a2) 240 ∧ (∀ (I5 : mI), I5 = mu I0 15 ((80 * a1) + a2).toNatClampNeg (vp_nar .boolean 1) → R 1 I5 J0))) ∧ (¬ ((I0 15 ((80 * a1) + a2).toNatClampNeg) = 0) → R 0 I0 J0)))))))
theorem P_M_hear (S : mI) (I0 : mI) (J0 : mJ) (a1 : Int32) (a2 : Int32)  (hp : pY2 S I0 J0 a1 a2)  (R : Int32 → mI → mJ → Prop)  (hR : ∀ (r : Int32) (I' : mI) (J' : mJ), qM_hear S I0 J0 a1 a2 r I' J' → R r I' J') : wp_M_hear R I0 J0 a1 a2 := by
  have hY : YR S I0 := hp
  have hb := hY.1.b
  have hR : ∀ I' J', RY (oHea S a1 a2).2 I' → R (oHea S a1 a2).1 I' J' := fun I' J' h => hR _ I' J' ⟨rfl, h⟩
  unfold oHea at hR
  unfold wp_M_hear
  refine ⟨fun h => ?_, fun h => ⟨fun h2 => ?_, fun h2 => ?_⟩⟩
  · rw [if_pos (Or.inl (isNm.mp h))] at hR
    exact hR I0 J0 hY.2
  · rw [if_pos (Or.inr (Or.inl (hY.isV.mp h2)))] at hR
    exact hR I0 J0 hY.2
  · have h1 : iNd a1 := nn (fun q => h (isNm.mpr q))
    have h3 : iVt S a2 := nn (fun q => h2 (hY.isV.mpr q))
    obtain ⟨n, hn, rfl⟩ := iNd_n h1
    obtain ⟨i, hi, rfl⟩ := hY.1.iV h3
    rw [cN_nI (by omega), cN_nI (by omega)] at hR
    rw [ix80, ic (by omega), hY.r (j := 15) (by omega) (by omega), hr_0, nar_1]
    refine ⟨iin (by omega) (by omega), fun z => ⟨iin (by omega) (by omega), fun I5 e5 => ?_⟩, fun z => ?_⟩
    · rw [if_neg (fun q => q.elim (fun y => y h1) (fun y => y.elim (fun y => y h3) (fun y => by rw [z] at y; exact absurd y (by decide))))] at hR
      refine hR I5 J0 ?_
      rw [e5]
      exact hY.2.mu _ _ _
    · rw [if_pos (Or.inr (Or.inr (nf z)))] at hR
      exact hR I0 J0 hY.2
set_option maxHeartbeats 4000000 in
set_option maxRecDepth 100000 in
theorem C_M_hear (l : Launch) (D : va_G) (ca : Nat → Nat) (ad : Nat → Nat) (S : mI) (I0 : mI) (J0 : mJ) (a1 : Int32) (a2 : Int32)  (hp : pY2 S I0 J0 a1 a2) : Met l yM_hear wM_hear ({ frames := 1, cells := 0, slots := 0, locals := 21 } : Room) (va_Pc [.ref (ad 0), .int a1, .int a2] (mPre D vwCl (xty ca) 23 ad (ymk ca ad) nL I0 J0)) (mQi D vwCl 23 ad (ymk ca ad) (qM_hear S I0 J0 a1 a2)) 0 0 (mA 23 ad) := by
  refine Met.ofW (cc := cM_hear) (maxL := 3) (ret := (some .boolean)) (by decide) rfl ?_
  intro p e s m args below meth c s₁ B hml hv
  obtain ⟨rfl, hP, hK, hD0, hN⟩ := hv
  have hx := B.exec
  have hb := B.bytes
  have hr := B.returns
  have htb : ∀ w ∈ wb, w.before _ s = true := fun w h => atoms_spec (ws := wM_hear) B.pre w (List.mem_cons_of_mem _ h)
  have hown : s.vm.findClass RM = some m.cls := findClass_of_methodNamed B.named
  have hlk := B.notSynchronized
  have hD := mw_Dm hD0
  have hS : va_S (mA 23 ad) s.heap s.heap [] := va_S.rf
  have hl := lv_entry ([.ref (ad 0), .int a1, .int a2]) (n := 3) (Nat.le_of_ble_eq_true rfl)
  rw [lg_entry_eq]
  generalize (lg_sl ([.ref (ad 0), .int a1, .int a2]) ++ List.replicate (3 - (lg_sl ([.ref (ad 0), .int a1, .int a2])).length) Slot.unset).toArray = ls at hl ⊢
  have hl : lv_has ls 3 [(0, .ref (ad 0)), (1, .int a1), (2, .int a2)] := hl
  have h := P_M_hear S I0 J0 a1 a2  hp  (qM_hear S I0 J0 a1 a2)  (fun _ _ _ h => h)
  unfold wp_M_hear at h
  refine lv_iload_n hx hb dM_hear_0 rfl (lv_at hl 1 rfl) ?_
  refine mc_r (va_runS (As := [.int a1]) (rest := []) ⟨hx, hb, hml, hown, htb⟩ (C_M_isNode l D ca ad I0 J0 a1) (va_cwS 1 htb (gd_s k3_135 k3_136 k1_8 k3_137) rfl rfl rfl (by decide +kernel) ⟨Nat.le_of_ble_eq_true rfl, Nat.le_of_ble_eq_true rfl⟩) (mPre_S hK hP hD hN) rfl rfl hl.1 rfl (lv_room (Nat.le_of_ble_eq_true rfl)) dM_hear_1 ⟨Nat.le_of_ble_eq_true rfl, Nat.le_of_ble_eq_true rfl⟩) hS (fun H locs hP hS => ?_)
  refine lv_if_eq (tgt := 29) hx hb dM_hear_4 (by decide) (fun hc => ?_) (fun hc => ?_)
  · have h := h.1 hc
    refine lv_iconst (v := 0) hx hb dM_hear_29 (by decide) ?_
    exact me_z hx hb hr hlk hP hS rfl h dM_hear_30
  · have h := h.2 hc
    refine lv_aload_n hx hb dM_hear_7 rfl (lv_at hl 0 rfl) ?_
    refine lv_iload_n hx hb dM_hear_8 rfl (lv_at hl 2 rfl) ?_
    refine mc_r (va_runV (As := [.int a2]) (rest := []) ⟨hx, hb, hml, hown, htb⟩ (C_M_isVote l D ca ad I0 J0 a2) (cwV 1 htb (gd_v k3_87 k3_89 ks30 k1_8 k3_90) rfl rfl rfl (by decide +kernel) ⟨Nat.le_of_ble_eq_true rfl, Nat.le_of_ble_eq_true rfl⟩) (mPre_V hK hP hD hN rfl (mw_at (by decide) (ym_0 _ _ _ _))) rfl rfl hl.1 rfl (lv_room (Nat.le_of_ble_eq_true rfl)) dM_hear_9 ⟨Nat.le_of_ble_eq_true rfl, Nat.le_of_ble_eq_true rfl⟩) hS (fun H locs hP hS => ?_)
    refine lv_if_eq (tgt := 29) hx hb dM_hear_12 (by decide) (fun hc => ?_) (fun hc => ?_)
    · have h := h.1 hc
      refine lv_iconst (v := 0) hx hb dM_hear_29 (by decide) ?_
      exact me_z hx hb hr hlk hP hS rfl h dM_hear_30
    · have h := h.2 hc
      refine lv_aload_n hx hb dM_hear_15 rfl (lv_at hl 0 rfl) ?_
      refine va_get (D := D) (ci := 6) (v := .ref (ad 15)) (C := RM) (T := TM) (N := 33) hx hb htb inM hown hK hP 0 (mw_at (by decide) (ym_0 _ _ _ _)) rfl 20 (by decide) (htb _ k2_192) (fun _ h9 => h9) rfl dM_hear_16 ?_
      refine lv_bipush (v := 80) hx hb dM_hear_19 (by decide) ?_
      refine lv_iload_n hx hb dM_hear_21 rfl (lv_at hl 1 rfl) ?_
      refine lv_imul hx hb dM_hear_22 ?_
      refine lv_iload_n hx hb dM_hear_23 rfl (lv_at hl 2 rfl) ?_
      refine lv_iadd hx hb dM_hear_24 ?_
      obtain ⟨hn3, h⟩ := h
      refine mr_zald hx hb hK hP 15 1 (by decide) rfl rfl hn3 dM_hear_25 ?_
      refine lv_if_eq (tgt := 31) hx hb dM_hear_26 (by decide) (fun hc => ?_) (fun hc => ?_)
      · have h := h.1 hc
        refine lv_aload_n hx hb dM_hear_31 rfl (lv_at hl 0 rfl) ?_
        refine va_get (D := D) (ci := 6) (v := .ref (ad 15)) (C := RM) (T := TM) (N := 33) hx hb htb inM hown hK hP 0 (mw_at (by decide) (ym_0 _ _ _ _)) rfl 20 (by decide) (htb _ k2_192) (fun _ h9 => h9) rfl dM_hear_32 ?_
        refine lv_bipush (v := 80) hx hb dM_hear_35 (by decide) ?_
        refine lv_iload_n hx hb dM_hear_37 rfl (lv_at hl 1 rfl) ?_
        refine lv_imul hx hb dM_hear_38 ?_
        refine lv_iload_n hx hb dM_hear_39 rfl (lv_at hl 2 rfl) ?_
        refine lv_iadd hx hb dM_hear_40 ?_
        refine lv_iconst (v := 1) hx hb dM_hear_41 (by decide) ?_
        obtain ⟨hn4, h⟩ := h
        refine mr_zast hx hb hK hP hD hS 15 1 (by decide) (fun _ => rfl) rfl hn4 dM_hear_42 (fun H locs hP hS => ?_)
        generalize heI5 : mu I0 15 ((80 * a1) + a2).toNatClampNeg (vp_nar .boolean 1) = I5 at hP
        have h := h I5 heI5.symm
        refine lv_iconst (v := 1) hx hb dM_hear_43 (by decide) ?_
        exact me_z hx hb hr hlk hP hS rfl h dM_hear_44
      · have h := h.2 hc
        refine lv_iconst (v := 0) hx hb dM_hear_29 (by decide) ?_
        exact me_z hx hb hr hlk hP hS rfl h dM_hear_30
