theorem fIn_0 {x lim : Int32} : fIn x lim = 0 ↔ ¬ (¬ x < 0 ∧ ¬ lim ≤ x) := by
  unfold fIn
  by_cases h1 : x < 0
  · rw [if_pos h1]; exact ⟨fun _ q => q.1 h1, fun _ => rfl⟩
  · rw [if_neg h1]
    by_cases h2 : lim ≤ x
    · rw [if_pos h2]; exact ⟨fun _ q => q.2 h2, fun _ => rfl⟩
    · rw [if_neg h2]; exact ⟨fun h => absurd h (by decide), fun h => absurd ⟨h1, h2⟩ h⟩
theorem in_nI {x : Int32} {n : Nat} (hn : n < 2 ^ 31) (h : ¬ x < 0 ∧ ¬ nI n ≤ x) : ∃ k, k < n ∧ x = nI k := by
  rcases pk_ix x hn with h1 | h1 | h1
  · exact absurd h1 h.1
  · exact absurd h1 h.2
  · exact h1
theorem nI_in' {k n : Nat} (h : k < n) (hn : n < 2 ^ 31) : ¬ nI k < 0 ∧ ¬ nI n ≤ nI k := ⟨nI_pos (by omega), nI_ge h hn⟩
theorem XR.isB {S I : mI} {J : mJ} (h : XR S I J) {x : Int32} : fF_isBlock I J x = 0 ↔ ¬ iBl S x := by
  unfold fF_isBlock
  rw [fIn_0, h.2.1.2.2.2.1]
theorem XR.isV {S I : mI} {J : mJ} (h : XR S I J) {x : Int32} : fF_isVote I J x = 0 ↔ ¬ iVt S x := by
  unfold fF_isVote
  rw [fIn_0, h.2.1.2.2.2.2.1]
theorem XR.isD {S I : mI} {J : mJ} (h : XR S I J) {x : Int32} : fF_isValidator I J x = 0 ↔ ¬ iVd S x := by
  unfold fF_isValidator
  rw [fIn_0, h.2.1.1]
theorem isN {I : mI} {J : mJ} {x : Int32} : fF_isNode I J x = 0 ↔ ¬ iNd x := by
  unfold fF_isNode
  rw [fIn_0]
theorem WF.iB {S : mI} (h : WF S) {x : Int32} (hx : iBl S x) : ∃ n, n < zBc S ∧ x = nI n := by
  have hb := h.b
  have e : S 0 4 = nI (zBc S) := h.1.2.2.2.2.2.2.1
  exact in_nI (by omega) (by rw [← e]; exact hx)
theorem WF.iV {S : mI} (h : WF S) {x : Int32} (hx : iVt S x) : ∃ n, n < zVc S ∧ x = nI n := by
  have hb := h.b
  have e : S 0 11 = nI (zVc S) := h.1.2.2.2.2.2.2.2.2.2.2.2.1
  exact in_nI (by omega) (by rw [← e]; exact hx)
theorem WF.iD {S : mI} (h : WF S) {x : Int32} (hx : iVd S x) : ∃ n, n < zNv S ∧ x = nI n := by
  have hb := h.b
  have e : S 0 0 = nI (zNv S) := h.1.1
  exact in_nI (by omega) (by rw [← e]; exact hx)
theorem iNd_n {x : Int32} (hx : iNd x) : ∃ n, n < 3 ∧ x = nI n := in_nI (n := 3) (by omega) hx
theorem nn {p : Prop} (h : ¬ ¬ p) : p := Classical.not_not.mp h
theorem WF.n {S : mI} (h : WF S) {n k : Nat} (hn : n < 3) (hk : k < 2) : S 16 (2 * n + k) = nI (zNe S (2 * n + k)) ∧ zNe S (2 * n + k) ≤ 240 ∧ S 17 (2 * n + k) = nI (zNb S (2 * n + k)) ∧ zNb S (2 * n + k) < zBc S := (h.2.2.2.2 n hn).1 k hk
theorem XR.n3 {S I : mI} {J : mJ} (h : XR S I J) {n : Nat} (hn : n < 3) : I (445 + 3 * n) 3 = nI (64 * zNe S (2 * n) + zNb S (2 * n)) := (h.2.2.2.2.2 n hn).2.2.2.1
theorem XR.n4 {S I : mI} {J : mJ} (h : XR S I J) {n : Nat} (hn : n < 3) : I (445 + 3 * n) 4 = nI (64 * zNe S (2 * n + 1) + zNb S (2 * n + 1)) := (h.2.2.2.2.2 n hn).2.2.2.2
theorem zKf_lt (S : mI) (n a : Nat) : ∀ k c, (zKf S n a k).1 = some c → c < k := by
  intro k
  induction k with
  | zero => intro c h; simp [zKf] at h
  | succ k ih =>
    intro c h
    simp only [zKf] at h
    by_cases q : a < k ∧ zKn S n k = true ∧ S 2 k = nI a ∧ (zKf S n a k).2 < zSup S n k
    · rw [if_pos q] at h
      cases h
      omega
    · rw [if_neg q] at h
      have := ih c h
      omega
theorem fst_lt {p : Nat → Bool} : ∀ k i j, zFst p k i = some j → i ≤ j ∧ j < i + k ∧ p j = true := by
  intro k
  induction k with
  | zero => intro i j h; simp [zFst] at h
  | succ k ih =>
    intro i j h
    cases hp : p i with
    | true =>
      rw [fst_t hp] at h
      cases h
      exact ⟨by omega, by omega, hp⟩
    | false =>
      rw [fst_f hp] at h
      have := ih _ _ h
      exact ⟨by omega, by omega, this.2.2⟩
theorem zPo_lt {q : Nat → Nat → Bool} : ∀ k i x, zPo q k i = some x → x < 101 * (i + k) := by
  intro k
  induction k with
  | zero => intro i x h; simp [zPo] at h
  | succ k ih =>
    intro i x h
    simp only [zPo] at h
    cases hz : zFst (q i) k (i + 1) with
    | none =>
      rw [hz] at h
      have := ih _ _ h
      omega
    | some j =>
      rw [hz] at h
      have := fst_lt _ _ _ hz
      have h2 : 100 * i + j = x := Option.some.inj h
      omega
noncomputable def fF_block (S _I : mI) (_ : mJ) (b w : Int32) : Int32 := rBlk S b w
noncomputable def fF_balance (S _I : mI) (_ : mJ) (b v : Int32) : Int32 := rBal S b v
noncomputable def fF_punished (S _I : mI) (_ : mJ) (b v : Int32) : Int32 := rPun S b v
noncomputable def fF_counted (S _I : mI) (_ : mJ) (b e : Int32) : Int32 := rCtd S b e
def fF_ballot (S _I : mI) (_ : mJ) (b e : Int32) : Int32 := rBlt S b e
def fF_knows (S _I : mI) (_ : mJ) (b e : Int32) : Int32 := rKno S b e
def fF_head (S _I : mI) (_ : mJ) (n : Int32) : Int32 := rHed S n
def fF_checkpoint (S _I : mI) (_ : mJ) (n w : Int32) : Int32 := rCkp S n w
def fF_conflict (S _I : mI) (_ : mJ) (n w : Int32) : Int32 := rCon S n w
def fF_guilty (S _I : mI) (_ : mJ) (n w : Int32) : Int32 := rGui S n w
def fF_proof (S _I : mI) (_ : mJ) (n : Int32) : Int32 := rPrf S n
def pX1 (S I : mI) (J : mJ) (_ : Int32) : Prop := XR S I J
def pX2 (S I : mI) (J : mJ) (_ _ : Int32) : Prop := XR S I J

def wp_F_block (R : Int32 → mI → mJ → Prop) (I0 : mI) (J0 : mJ) (a1 : Int32) (a2 : Int32) : Prop :=
  ((¬ ((fF_isBlock I0 J0 a1) = 0) → (vp_in a1 60 ∧ ((a2 = 0 → ((¬ ((I0 (3 + 6 * a1.toNatClampNeg) 0) = (-1)) → R (I0 (3 + 6 * a1.toNatClampNeg) 0) I0 J0) ∧ ((I0 (3 + 6 * a1.toNatClampNeg) 0) = (-1) → R (-1) I0 J0))) ∧ (a2 = 1 → R (I0 (3 + 6 * a1.toNatClampNeg) 1) I0 J0) ∧ (a2 = 2 → R (I0 (3 + 6 * a1.toNatClampNeg) 2) I0 J0) ∧ (a2 = 3 → R (I0 ((3 + 6 * a1.toNatClampNeg) + 1) 2) I0 J0) ∧ (a2 = 4 → R (fF_epochOf I0 J0 (I0 ((3 + 6 * a1.toNatClampNeg) + 4) 2)) I0 J0) ∧ (a2 = 5 → R (fF_blockOf I0 J0 (I0 ((3 + 6 * a1.toNatClampNeg) + 4) 2)) I0 J0) ∧ (a2 = 6 → R (fF_epochOf I0 J0 (I0 ((3 + 6 * a1.toNatClampNeg) + 4) 3)) I0 J0) ∧ (a2 = 7 → R (fF_blockOf I0 J0 (I0 ((3 + 6 * a1.toNatClampNeg) + 4) 3)) I0 J0) ∧ (¬ a2 = 0 ∧ ¬ a2 = 1 ∧ ¬ a2 = 2 ∧ ¬ a2 = 3 ∧ ¬ a2 = 4 ∧ ¬ a2 = 5 ∧ ¬ a2 = 6 ∧ ¬ a2 = 7 → R (-1) I0 J0)))) ∧ ((fF_isBlock I0 J0 a1) = 0 → R (-1) I0 J0))
theorem P_F_block (S : mI) (I0 : mI) (J0 : mJ) (a1 : Int32) (a2 : Int32)  (hp : pX2 S I0 J0 a1 a2)  (R : Int32 → mI → mJ → Prop)  (hR : R (fF_block S I0 J0 a1 a2) I0 J0) : wp_F_block R I0 J0 a1 a2 := by
  have hX : XR S I0 J0 := hp
  have hb := hX.1.b
  unfold fF_block rBlk at hR
  unfold wp_F_block
  refine ⟨fun h => ?_, fun h => ?_⟩
  · have h1 : iBl S a1 := nn (fun q => h (hX.isB.mpr q))
    rw [if_neg (fun q => q h1)] at hR
    obtain ⟨n, hn, rfl⟩ := hX.1.iB h1
    rw [cN_nI (by omega)] at hR
    have hB := hX.2.2.2.1 n hn
    have hg := hX.1.g hn
    have hE := hB.2.2.2.2.2.2
    unfold gW at hg
    unfold fF_epochOf fF_blockOf
    rw [show (nI n).toNatClampNeg = n from nI_clamp (by omega), hB.1, hB.2.1, hB.2.2.1, hB.2.2.2.2.1, hE.2.2.1, hE.2.2.2.1, fEp_ck (by omega) (by omega), fEp_ck (by omega) (by omega), ck_bl (by omega) (by omega), ck_bl (by omega) (by omega)]
    refine ⟨vp_in_nI (by omega) (by omega), fun hw => ?_, fun hw => ?_, fun hw => ?_, fun hw => ?_, fun hw => ?_, fun hw => ?_, fun hw => ?_, fun hw => ?_, fun hw => ?_⟩
    · subst hw
      rw [if_pos rfl] at hR
      exact ⟨fun _ => hR, fun h => by rw [h] at hR; exact hR⟩
    · subst hw; rw [if_neg (by decide), if_pos rfl] at hR; exact hR
    · subst hw; rw [if_neg (by decide), if_neg (by decide), if_pos rfl] at hR; exact hR
    · subst hw; rw [if_neg (by decide), if_neg (by decide), if_neg (by decide), if_pos rfl] at hR; exact hR
    · subst hw; rw [if_neg (by decide), if_neg (by decide), if_neg (by decide), if_neg (by decide), if_pos rfl] at hR; exact hR
    · subst hw; rw [if_neg (by decide), if_neg (by decide), if_neg (by decide), if_neg (by decide), if_neg (by decide), if_pos rfl] at hR; exact hR
    · subst hw; rw [if_neg (by decide), if_neg (by decide), if_neg (by decide), if_neg (by decide), if_neg (by decide), if_neg (by decide), if_pos rfl] at hR; exact hR
    · subst hw; rw [if_neg (by decide), if_neg (by decide), if_neg (by decide), if_neg (by decide), if_neg (by decide), if_neg (by decide), if_neg (by decide), if_pos rfl] at hR; exact hR
    · rw [if_neg hw.1, if_neg hw.2.1, if_neg hw.2.2.1, if_neg hw.2.2.2.1, if_neg hw.2.2.2.2.1, if_neg hw.2.2.2.2.2.1, if_neg hw.2.2.2.2.2.2.1, if_neg hw.2.2.2.2.2.2.2] at hR; exact hR
  · rw [if_pos (hX.isB.mp h)] at hR
    exact hR
set_option maxHeartbeats 4000000 in
set_option maxRecDepth 100000 in
theorem C_F_block (l : Launch) (D : va_G) (ca : Nat → Nat) (ad : Nat → Nat) (S : mI) (I0 : mI) (J0 : mJ) (a1 : Int32) (a2 : Int32)  (hp : pX2 S I0 J0 a1 a2) : Met l yF_block wF_block ({ frames := 1, cells := 0, slots := 0, locals := 21 } : Room) (va_Pc [.ref (ad 0), .int a1, .int a2] (mPre D vwCl (xty ca) 459 ad (xmk ca ad) nL I0 J0)) (mQi D vwCl 459 ad (xmk ca ad) (fun r I' J' => r = fF_block S I0 J0 a1 a2 ∧ I' = I0 ∧ J' = J0)) 0 0 (mA 459 ad) := by
  refine Met.ofW (cc := cF_block) (maxL := 4) (ret := (some .int)) (by decide) rfl ?_
  intro p e s m args below meth c s₁ B hml hv
  obtain ⟨rfl, hP, hK, hD0, hN⟩ := hv
  have hx := B.exec
  have hb := B.bytes
  have hr := B.returns
  have htb : ∀ w ∈ wb, w.before _ s = true := fun w h => atoms_spec (ws := wF_block) B.pre w (List.mem_cons_of_mem _ h)
  have hown : s.vm.findClass RF = some m.cls := findClass_of_methodNamed B.named
  have hlk := B.notSynchronized
  have hD := mw_Dm hD0
  have hS : va_S (mA 459 ad) s.heap s.heap [] := va_S.rf
  have hl := lv_entry ([.ref (ad 0), .int a1, .int a2]) (n := 4) (Nat.le_of_ble_eq_true rfl)
  rw [lg_entry_eq]
  generalize (lg_sl ([.ref (ad 0), .int a1, .int a2]) ++ List.replicate (4 - (lg_sl ([.ref (ad 0), .int a1, .int a2])).length) Slot.unset).toArray = ls at hl ⊢
  have hl : lv_has ls 4 [(0, .ref (ad 0)), (1, .int a1), (2, .int a2)] := hl
  have h := P_F_block S I0 J0 a1 a2  hp  (fun r I' J' => r = fF_block S I0 J0 a1 a2 ∧ I' = I0 ∧ J' = J0)  ⟨rfl, rfl, rfl⟩
  unfold wp_F_block at h
  refine lv_aload_n hx hb dF_block_0 rfl (lv_at hl 0 rfl) ?_
  refine lv_iload_n hx hb dF_block_1 rfl (lv_at hl 1 rfl) ?_
  refine mc_r (va_runV (As := [.int a1]) (rest := []) ⟨hx, hb, hml, hown, htb⟩ (C_F_isBlock l D ca ad I0 J0 a1) (cwV 1 htb (gd_v k1_204 k1_206 ks1 k1_1 k1_207) rfl rfl rfl (by decide +kernel) ⟨Nat.le_of_ble_eq_true rfl, Nat.le_of_ble_eq_true rfl⟩) (mPre_V hK hP hD hN rfl (mw_at (xk_lt (show xk 0 = 0 from rfl) (by decide)) (xm_F (show xk 0 = 0 from rfl) _ _))) rfl rfl hl.1 rfl (lv_room (Nat.le_of_ble_eq_true rfl)) dF_block_2 ⟨Nat.le_of_ble_eq_true rfl, Nat.le_of_ble_eq_true rfl⟩) hS (fun H locs hP hS => ?_)
  refine lv_if_ne (tgt := 10) hx hb dF_block_5 (by decide) (fun hc => ?_) (fun hc => ?_)
  · have h := h.1 hc
    refine lv_aload_n hx hb dF_block_10 rfl (lv_at hl 0 rfl) ?_
    refine va_get (D := D) (ci := 5) (v := .ref (ad 2)) (C := RF) (T := TF) (N := 11) hx hb htb inF hown hK hP 0 (mw_at (xk_lt (show xk 0 = 0 from rfl) (by decide)) (xm_F (show xk 0 = 0 from rfl) _ _)) rfl 4 (by decide) (htb _ k1_166) (fun _ h9 => h9) rfl dF_block_11 ?_
    refine lv_iload_n hx hb dF_block_14 rfl (lv_at hl 1 rfl) ?_
    obtain ⟨hn2, h⟩ := h
    refine mr_aald hx hb hK hP 2 2 (xk_lt (show xk 2 = 2 from rfl) (by decide)) (xm_BA (show xk 2 = 2 from rfl) _ _) rfl hn2 dF_block_15 ?_
    refine lv_astore_n (lv' := [(3, .ref (ad (3 + 6 * a1.toNatClampNeg))), (0, .ref (ad 0)), (1, .int a1), (2, .int a2)]) hx hb dF_block_16 rfl hl (by decide) rfl (fun ls hl => ?_)
    refine lv_iload_n hx hb dF_block_17 rfl (lv_at hl 3 rfl) ?_
    by_cases hc0 : a2 = 0
    · have h := h.1 hc0
      refine lv_tableIn (off := 46) (tgt := 64) hx hb dF_block_18 (by rw [hc0]; decide) (by rw [hc0]; decide) (by rw [hc0]; rfl) (by decide) ?_
      refine lv_aload_n hx hb dF_block_64 rfl (lv_at hl 0 rfl) ?_
      refine va_get (D := D) (ci := 0) (v := .int (I0 (3 + 6 * a1.toNatClampNeg) 0)) (C := RB) (T := TB) (N := 6) hx hb htb inB hown hK hP (3 + 6 * a1.toNatClampNeg) (mw_at (xk_lt (xk_B hn2) (by decide)) (xm_B (xk_B hn2) _ _)) rfl 0 (by decide) (htb _ k1_84) (fun _ h9 => h9) rfl dF_block_65 ?_
      refine lv_iconst (v := (-1)) hx hb dF_block_68 (by decide) ?_
      refine lv_icmp_ne (tgt := 76) hx hb dF_block_69 (by decide) (fun hc => ?_) (fun hc => ?_)
      · have h := h.1 hc
        refine lv_aload_n hx hb dF_block_76 rfl (lv_at hl 0 rfl) ?_
        refine va_get (D := D) (ci := 0) (v := .int (I0 (3 + 6 * a1.toNatClampNeg) 0)) (C := RB) (T := TB) (N := 6) hx hb htb inB hown hK hP (3 + 6 * a1.toNatClampNeg) (mw_at (xk_lt (xk_B hn2) (by decide)) (xm_B (xk_B hn2) _ _)) rfl 0 (by decide) (htb _ k1_84) (fun _ h9 => h9) rfl dF_block_77 ?_
        exact me_i hx hb hr hlk hP hS h dF_block_80
      · have h := h.2 hc
        refine lv_iconst (v := (-1)) hx hb dF_block_72 (by decide) ?_
        refine lv_goto (tgt := 80) hx hb dF_block_73 (by decide) ?_
        exact me_i hx hb hr hlk hP hS h dF_block_80
    by_cases hc1 : a2 = 1
    · have h := h.2.1 hc1
      refine lv_tableIn (off := 63) (tgt := 81) hx hb dF_block_18 (by rw [hc1]; decide) (by rw [hc1]; decide) (by rw [hc1]; rfl) (by decide) ?_
      refine lv_aload_n hx hb dF_block_81 rfl (lv_at hl 0 rfl) ?_
      refine va_get (D := D) (ci := 0) (v := .int (I0 (3 + 6 * a1.toNatClampNeg) 1)) (C := RB) (T := TB) (N := 6) hx hb htb inB hown hK hP (3 + 6 * a1.toNatClampNeg) (mw_at (xk_lt (xk_B hn2) (by decide)) (xm_B (xk_B hn2) _ _)) rfl 1 (by decide) (htb _ k1_85) (fun _ h9 => h9) rfl dF_block_82 ?_
      exact me_i hx hb hr hlk hP hS h dF_block_85
    by_cases hc2 : a2 = 2
    · have h := h.2.2.1 hc2
      refine lv_tableIn (off := 68) (tgt := 86) hx hb dF_block_18 (by rw [hc2]; decide) (by rw [hc2]; decide) (by rw [hc2]; rfl) (by decide) ?_
      refine lv_aload_n hx hb dF_block_86 rfl (lv_at hl 0 rfl) ?_
      refine va_get (D := D) (ci := 0) (v := .int (I0 (3 + 6 * a1.toNatClampNeg) 2)) (C := RB) (T := TB) (N := 6) hx hb htb inB hown hK hP (3 + 6 * a1.toNatClampNeg) (mw_at (xk_lt (xk_B hn2) (by decide)) (xm_B (xk_B hn2) _ _)) rfl 2 (by decide) (htb _ k1_86) (fun _ h9 => h9) rfl dF_block_87 ?_
      exact me_i hx hb hr hlk hP hS h dF_block_90
    by_cases hc3 : a2 = 3
    · have h := h.2.2.2.1 hc3
      refine lv_tableIn (off := 73) (tgt := 91) hx hb dF_block_18 (by rw [hc3]; decide) (by rw [hc3]; decide) (by rw [hc3]; rfl) (by decide) ?_
      refine lv_aload_n hx hb dF_block_91 rfl (lv_at hl 0 rfl) ?_
      refine va_get (D := D) (ci := 0) (v := .ref (ad ((3 + 6 * a1.toNatClampNeg) + 1))) (C := RB) (T := TB) (N := 6) hx hb htb inB hown hK hP (3 + 6 * a1.toNatClampNeg) (mw_at (xk_lt (xk_B hn2) (by decide)) (xm_B (xk_B hn2) _ _)) rfl 4 (by decide) (htb _ k1_90) (fun _ h9 => h9) rfl dF_block_92 ?_
      refine va_get (D := D) (ci := 1) (v := .int (I0 ((3 + 6 * a1.toNatClampNeg) + 1) 2)) (C := RI) (T := TI) (N := 3) hx hb htb inI hown hK hP ((3 + 6 * a1.toNatClampNeg) + 1) (mw_at (xk_lt (xk_BI (xk_B hn2)) (by decide)) (xm_I (xk_BI (xk_B hn2)) _ _)) rfl 2 (by decide) (htb _ k1_42) (fun _ h9 => h9) rfl dF_block_95 ?_
      exact me_i hx hb hr hlk hP hS h dF_block_98
    by_cases hc4 : a2 = 4
    · have h := h.2.2.2.2.1 hc4
      refine lv_tableIn (off := 81) (tgt := 99) hx hb dF_block_18 (by rw [hc4]; decide) (by rw [hc4]; decide) (by rw [hc4]; rfl) (by decide) ?_
      refine lv_aload_n hx hb dF_block_99 rfl (lv_at hl 0 rfl) ?_
      refine va_get (D := D) (ci := 0) (v := .ref (ad ((3 + 6 * a1.toNatClampNeg) + 4))) (C := RB) (T := TB) (N := 6) hx hb htb inB hown hK hP (3 + 6 * a1.toNatClampNeg) (mw_at (xk_lt (xk_B hn2) (by decide)) (xm_B (xk_B hn2) _ _)) rfl 5 (by decide) (htb _ k1_92) (fun _ h9 => h9) rfl dF_block_100 ?_
      refine va_get (D := D) (ci := 3) (v := .int (I0 ((3 + 6 * a1.toNatClampNeg) + 4) 2)) (C := RS) (T := TS) (N := 7) hx hb htb inS hown hK hP ((3 + 6 * a1.toNatClampNeg) + 4) (mw_at (xk_lt (xk_BS (xk_B hn2)) (by decide)) (xm_S (xk_BS (xk_B hn2)) _ _)) rfl 2 (by decide) (htb _ k1_62) (fun _ h9 => h9) rfl dF_block_103 ?_
      refine mc_r (va_runS (As := [.int (I0 ((3 + 6 * a1.toNatClampNeg) + 4) 2)]) (rest := []) ⟨hx, hb, hml, hown, htb⟩ (C_F_epochOf l D ca ad I0 J0 (I0 ((3 + 6 * a1.toNatClampNeg) + 4) 2)) (va_cwS 1 htb (gd_s k1_219 k1_220 k1_1 k1_221) rfl rfl rfl (by decide +kernel) ⟨Nat.le_of_ble_eq_true rfl, Nat.le_of_ble_eq_true rfl⟩) (mPre_S hK hP hD hN) rfl rfl hl.1 rfl (lv_room (Nat.le_of_ble_eq_true rfl)) dF_block_106 ⟨Nat.le_of_ble_eq_true rfl, Nat.le_of_ble_eq_true rfl⟩) hS (fun H locs hP hS => ?_)
      exact me_i hx hb hr hlk hP hS h dF_block_109
    by_cases hc5 : a2 = 5
    · have h := h.2.2.2.2.2.1 hc5
      refine lv_tableIn (off := 92) (tgt := 110) hx hb dF_block_18 (by rw [hc5]; decide) (by rw [hc5]; decide) (by rw [hc5]; rfl) (by decide) ?_
      refine lv_aload_n hx hb dF_block_110 rfl (lv_at hl 0 rfl) ?_
      refine va_get (D := D) (ci := 0) (v := .ref (ad ((3 + 6 * a1.toNatClampNeg) + 4))) (C := RB) (T := TB) (N := 6) hx hb htb inB hown hK hP (3 + 6 * a1.toNatClampNeg) (mw_at (xk_lt (xk_B hn2) (by decide)) (xm_B (xk_B hn2) _ _)) rfl 5 (by decide) (htb _ k1_92) (fun _ h9 => h9) rfl dF_block_111 ?_
      refine va_get (D := D) (ci := 3) (v := .int (I0 ((3 + 6 * a1.toNatClampNeg) + 4) 2)) (C := RS) (T := TS) (N := 7) hx hb htb inS hown hK hP ((3 + 6 * a1.toNatClampNeg) + 4) (mw_at (xk_lt (xk_BS (xk_B hn2)) (by decide)) (xm_S (xk_BS (xk_B hn2)) _ _)) rfl 2 (by decide) (htb _ k1_62) (fun _ h9 => h9) rfl dF_block_114 ?_
      refine mc_r (va_runS (As := [.int (I0 ((3 + 6 * a1.toNatClampNeg) + 4) 2)]) (rest := []) ⟨hx, hb, hml, hown, htb⟩ (C_F_blockOf l D ca ad I0 J0 (I0 ((3 + 6 * a1.toNatClampNeg) + 4) 2)) (va_cwS 1 htb (gd_s k2_72 k2_73 k1_1 k2_74) rfl rfl rfl (by decide +kernel) ⟨Nat.le_of_ble_eq_true rfl, Nat.le_of_ble_eq_true rfl⟩) (mPre_S hK hP hD hN) rfl rfl hl.1 rfl (lv_room (Nat.le_of_ble_eq_true rfl)) dF_block_117 ⟨Nat.le_of_ble_eq_true rfl, Nat.le_of_ble_eq_true rfl⟩) hS (fun H locs hP hS => ?_)
      exact me_i hx hb hr hlk hP hS h dF_block_120
    by_cases hc6 : a2 = 6
    · have h := h.2.2.2.2.2.2.1 hc6
      refine lv_tableIn (off := 103) (tgt := 121) hx hb dF_block_18 (by rw [hc6]; decide) (by rw [hc6]; decide) (by rw [hc6]; rfl) (by decide) ?_
      refine lv_aload_n hx hb dF_block_121 rfl (lv_at hl 0 rfl) ?_
      refine va_get (D := D) (ci := 0) (v := .ref (ad ((3 + 6 * a1.toNatClampNeg) + 4))) (C := RB) (T := TB) (N := 6) hx hb htb inB hown hK hP (3 + 6 * a1.toNatClampNeg) (mw_at (xk_lt (xk_B hn2) (by decide)) (xm_B (xk_B hn2) _ _)) rfl 5 (by decide) (htb _ k1_92) (fun _ h9 => h9) rfl dF_block_122 ?_
      refine va_get (D := D) (ci := 3) (v := .int (I0 ((3 + 6 * a1.toNatClampNeg) + 4) 3)) (C := RS) (T := TS) (N := 7) hx hb htb inS hown hK hP ((3 + 6 * a1.toNatClampNeg) + 4) (mw_at (xk_lt (xk_BS (xk_B hn2)) (by decide)) (xm_S (xk_BS (xk_B hn2)) _ _)) rfl 3 (by decide) (htb _ k1_64) (fun _ h9 => h9) rfl dF_block_125 ?_
      refine mc_r (va_runS (As := [.int (I0 ((3 + 6 * a1.toNatClampNeg) + 4) 3)]) (rest := []) ⟨hx, hb, hml, hown, htb⟩ (C_F_epochOf l D ca ad I0 J0 (I0 ((3 + 6 * a1.toNatClampNeg) + 4) 3)) (va_cwS 1 htb (gd_s k1_219 k1_220 k1_1 k1_221) rfl rfl rfl (by decide +kernel) ⟨Nat.le_of_ble_eq_true rfl, Nat.le_of_ble_eq_true rfl⟩) (mPre_S hK hP hD hN) rfl rfl hl.1 rfl (lv_room (Nat.le_of_ble_eq_true rfl)) dF_block_128 ⟨Nat.le_of_ble_eq_true rfl, Nat.le_of_ble_eq_true rfl⟩) hS (fun H locs hP hS => ?_)
      exact me_i hx hb hr hlk hP hS h dF_block_131
    by_cases hc7 : a2 = 7
    · have h := h.2.2.2.2.2.2.2.1 hc7
      refine lv_tableIn (off := 114) (tgt := 132) hx hb dF_block_18 (by rw [hc7]; decide) (by rw [hc7]; decide) (by rw [hc7]; rfl) (by decide) ?_
      refine lv_aload_n hx hb dF_block_132 rfl (lv_at hl 0 rfl) ?_
      refine va_get (D := D) (ci := 0) (v := .ref (ad ((3 + 6 * a1.toNatClampNeg) + 4))) (C := RB) (T := TB) (N := 6) hx hb htb inB hown hK hP (3 + 6 * a1.toNatClampNeg) (mw_at (xk_lt (xk_B hn2) (by decide)) (xm_B (xk_B hn2) _ _)) rfl 5 (by decide) (htb _ k1_92) (fun _ h9 => h9) rfl dF_block_133 ?_
      refine va_get (D := D) (ci := 3) (v := .int (I0 ((3 + 6 * a1.toNatClampNeg) + 4) 3)) (C := RS) (T := TS) (N := 7) hx hb htb inS hown hK hP ((3 + 6 * a1.toNatClampNeg) + 4) (mw_at (xk_lt (xk_BS (xk_B hn2)) (by decide)) (xm_S (xk_BS (xk_B hn2)) _ _)) rfl 3 (by decide) (htb _ k1_64) (fun _ h9 => h9) rfl dF_block_136 ?_
      refine mc_r (va_runS (As := [.int (I0 ((3 + 6 * a1.toNatClampNeg) + 4) 3)]) (rest := []) ⟨hx, hb, hml, hown, htb⟩ (C_F_blockOf l D ca ad I0 J0 (I0 ((3 + 6 * a1.toNatClampNeg) + 4) 3)) (va_cwS 1 htb (gd_s k2_72 k2_73 k1_1 k2_74) rfl rfl rfl (by decide +kernel) ⟨Nat.le_of_ble_eq_true rfl, Nat.le_of_ble_eq_true rfl⟩) (mPre_S hK hP hD hN) rfl rfl hl.1 rfl (lv_room (Nat.le_of_ble_eq_true rfl)) dF_block_139 ⟨Nat.le_of_ble_eq_true rfl, Nat.le_of_ble_eq_true rfl⟩) hS (fun H locs hP hS => ?_)
      exact me_i hx hb hr hlk hP hS h dF_block_142
    have h := h.2.2.2.2.2.2.2.2 ⟨hc0, hc1, hc2, hc3, hc4, hc5, hc6, hc7⟩
    refine lv_tableOut (tgt := 143) hx hb dF_block_18 (sw_out (by have q0 := sw_ne (k := 0) (n := 0) rfl hc0; have q1 := sw_ne (k := 1) (n := 1) rfl hc1; have q2 := sw_ne (k := 2) (n := 2) rfl hc2; have q3 := sw_ne (k := 3) (n := 3) rfl hc3; have q4 := sw_ne (k := 4) (n := 4) rfl hc4; have q5 := sw_ne (k := 5) (n := 5) rfl hc5; have q6 := sw_ne (k := 6) (n := 6) rfl hc6; have q7 := sw_ne (k := 7) (n := 7) rfl hc7; omega)) (by decide) ?_
    refine lv_iconst (v := (-1)) hx hb dF_block_143 (by decide) ?_
    exact me_i hx hb hr hlk hP hS h dF_block_144
  · have h := h.2 hc
    refine lv_iconst (v := (-1)) hx hb dF_block_8 (by decide) ?_
    exact me_i hx hb hr hlk hP hS h dF_block_9
def wp_F_balance (R : Int32 → mI → mJ → Prop) (I0 : mI) (J0 : mJ) (a1 : Int32) (a2 : Int32) : Prop :=
  (((fF_isBlock I0 J0 a1) = 0 → R (-1) I0 J0) ∧ (¬ ((fF_isBlock I0 J0 a1) = 0) → ((¬ ((fF_isValidator I0 J0 a2) = 0) → (vp_in a1 60 ∧ (vp_in a2 7 ∧ R (I0 (((3 + 6 * a1.toNatClampNeg) + 4) + 1) a2.toNatClampNeg) I0 J0))) ∧ ((fF_isValidator I0 J0 a2) = 0 → R (-1) I0 J0))))
theorem P_F_balance (S : mI) (I0 : mI) (J0 : mJ) (a1 : Int32) (a2 : Int32)  (hp : pX2 S I0 J0 a1 a2)  (R : Int32 → mI → mJ → Prop)  (hR : R (fF_balance S I0 J0 a1 a2) I0 J0) : wp_F_balance R I0 J0 a1 a2 := by
  have hX : XR S I0 J0 := hp
  have hb := hX.1.b
  unfold fF_balance rBal at hR
  unfold wp_F_balance
  refine ⟨fun h => ?_, fun h => ⟨fun h2 => ?_, fun h2 => ?_⟩⟩
  · rw [if_pos (Or.inl (hX.isB.mp h))] at hR
    exact hR
  · have h1 : iBl S a1 := nn (fun q => h (hX.isB.mpr q))
    have h3 : iVd S a2 := nn (fun q => h2 (hX.isD.mpr q))
    rw [if_neg (fun q => q.elim (fun z => z h1) (fun z => z h3))] at hR
    obtain ⟨n, hn, rfl⟩ := hX.1.iB h1
    obtain ⟨v, hv, rfl⟩ := hX.1.iD h3
    rw [cN_nI (by omega), cN_nI (by omega)] at hR
    have hE := (hX.2.2.2.1 n hn).2.2.2.2.2.2
    rw [show (nI n).toNatClampNeg = n from nI_clamp (by omega), show (nI v).toNatClampNeg = v from nI_clamp (by omega), hE.1 v (by omega)]
    exact ⟨vp_in_nI (by omega) (by omega), vp_in_nI (by omega) (by omega), hR⟩
  · rw [if_pos (Or.inr (hX.isD.mp h2))] at hR
    exact hR
set_option maxHeartbeats 4000000 in
set_option maxRecDepth 100000 in
theorem C_F_balance (l : Launch) (D : va_G) (ca : Nat → Nat) (ad : Nat → Nat) (S : mI) (I0 : mI) (J0 : mJ) (a1 : Int32) (a2 : Int32)  (hp : pX2 S I0 J0 a1 a2) : Met l yF_balance wF_balance ({ frames := 1, cells := 0, slots := 0, locals := 21 } : Room) (va_Pc [.ref (ad 0), .int a1, .int a2] (mPre D vwCl (xty ca) 459 ad (xmk ca ad) nL I0 J0)) (mQi D vwCl 459 ad (xmk ca ad) (fun r I' J' => r = fF_balance S I0 J0 a1 a2 ∧ I' = I0 ∧ J' = J0)) 0 0 (mA 459 ad) := by
  refine Met.ofW (cc := cF_balance) (maxL := 3) (ret := (some .int)) (by decide) rfl ?_
  intro p e s m args below meth c s₁ B hml hv
  obtain ⟨rfl, hP, hK, hD0, hN⟩ := hv
  have hx := B.exec
  have hb := B.bytes
  have hr := B.returns
  have htb : ∀ w ∈ wb, w.before _ s = true := fun w h => atoms_spec (ws := wF_balance) B.pre w (List.mem_cons_of_mem _ h)
  have hown : s.vm.findClass RF = some m.cls := findClass_of_methodNamed B.named
  have hlk := B.notSynchronized
  have hD := mw_Dm hD0
  have hS : va_S (mA 459 ad) s.heap s.heap [] := va_S.rf
  have hl := lv_entry ([.ref (ad 0), .int a1, .int a2]) (n := 3) (Nat.le_of_ble_eq_true rfl)
  rw [lg_entry_eq]
  generalize (lg_sl ([.ref (ad 0), .int a1, .int a2]) ++ List.replicate (3 - (lg_sl ([.ref (ad 0), .int a1, .int a2])).length) Slot.unset).toArray = ls at hl ⊢
  have hl : lv_has ls 3 [(0, .ref (ad 0)), (1, .int a1), (2, .int a2)] := hl
  have h := P_F_balance S I0 J0 a1 a2  hp  (fun r I' J' => r = fF_balance S I0 J0 a1 a2 ∧ I' = I0 ∧ J' = J0)  ⟨rfl, rfl, rfl⟩
  unfold wp_F_balance at h
  refine lv_aload_n hx hb dF_balance_0 rfl (lv_at hl 0 rfl) ?_
  refine lv_iload_n hx hb dF_balance_1 rfl (lv_at hl 1 rfl) ?_
  refine mc_r (va_runV (As := [.int a1]) (rest := []) ⟨hx, hb, hml, hown, htb⟩ (C_F_isBlock l D ca ad I0 J0 a1) (cwV 1 htb (gd_v k1_204 k1_206 ks1 k1_1 k1_207) rfl rfl rfl (by decide +kernel) ⟨Nat.le_of_ble_eq_true rfl, Nat.le_of_ble_eq_true rfl⟩) (mPre_V hK hP hD hN rfl (mw_at (xk_lt (show xk 0 = 0 from rfl) (by decide)) (xm_F (show xk 0 = 0 from rfl) _ _))) rfl rfl hl.1 rfl (lv_room (Nat.le_of_ble_eq_true rfl)) dF_balance_2 ⟨Nat.le_of_ble_eq_true rfl, Nat.le_of_ble_eq_true rfl⟩) hS (fun H locs hP hS => ?_)
  refine lv_if_eq (tgt := 16) hx hb dF_balance_5 (by decide) (fun hc => ?_) (fun hc => ?_)
  · have h := h.1 hc
    refine lv_iconst (v := (-1)) hx hb dF_balance_16 (by decide) ?_
    exact me_i hx hb hr hlk hP hS h dF_balance_17
  · have h := h.2 hc
    refine lv_aload_n hx hb dF_balance_8 rfl (lv_at hl 0 rfl) ?_
    refine lv_iload_n hx hb dF_balance_9 rfl (lv_at hl 2 rfl) ?_
    refine mc_r (va_runV (As := [.int a2]) (rest := []) ⟨hx, hb, hml, hown, htb⟩ (C_F_isValidator l D ca ad I0 J0 a2) (cwV 1 htb (gd_v k1_200 k1_202 ks0 k1_1 k1_203) rfl rfl rfl (by decide +kernel) ⟨Nat.le_of_ble_eq_true rfl, Nat.le_of_ble_eq_true rfl⟩) (mPre_V hK hP hD hN rfl (mw_at (xk_lt (show xk 0 = 0 from rfl) (by decide)) (xm_F (show xk 0 = 0 from rfl) _ _))) rfl rfl hl.1 rfl (lv_room (Nat.le_of_ble_eq_true rfl)) dF_balance_10 ⟨Nat.le_of_ble_eq_true rfl, Nat.le_of_ble_eq_true rfl⟩) hS (fun H locs hP hS => ?_)
    refine lv_if_ne (tgt := 18) hx hb dF_balance_13 (by decide) (fun hc => ?_) (fun hc => ?_)
    · have h := h.1 hc
      refine lv_aload_n hx hb dF_balance_18 rfl (lv_at hl 0 rfl) ?_
      refine va_get (D := D) (ci := 5) (v := .ref (ad 2)) (C := RF) (T := TF) (N := 11) hx hb htb inF hown hK hP 0 (mw_at (xk_lt (show xk 0 = 0 from rfl) (by decide)) (xm_F (show xk 0 = 0 from rfl) _ _)) rfl 4 (by decide) (htb _ k1_166) (fun _ h9 => h9) rfl dF_balance_19 ?_
      refine lv_iload_n hx hb dF_balance_22 rfl (lv_at hl 1 rfl) ?_
      obtain ⟨hn3, h⟩ := h
      refine mr_aald hx hb hK hP 2 2 (xk_lt (show xk 2 = 2 from rfl) (by decide)) (xm_BA (show xk 2 = 2 from rfl) _ _) rfl hn3 dF_balance_23 ?_
      refine va_get (D := D) (ci := 0) (v := .ref (ad ((3 + 6 * a1.toNatClampNeg) + 4))) (C := RB) (T := TB) (N := 6) hx hb htb inB hown hK hP (3 + 6 * a1.toNatClampNeg) (mw_at (xk_lt (xk_B hn3) (by decide)) (xm_B (xk_B hn3) _ _)) rfl 5 (by decide) (htb _ k1_92) (fun _ h9 => h9) rfl dF_balance_24 ?_
      refine va_get (D := D) (ci := 3) (v := .ref (ad (((3 + 6 * a1.toNatClampNeg) + 4) + 1))) (C := RS) (T := TS) (N := 7) hx hb htb inS hown hK hP ((3 + 6 * a1.toNatClampNeg) + 4) (mw_at (xk_lt (xk_BS (xk_B hn3)) (by decide)) (xm_S (xk_BS (xk_B hn3)) _ _)) rfl 0 (by decide) (htb _ k1_58) (fun _ h9 => h9) rfl dF_balance_27 ?_
      refine lv_iload_n hx hb dF_balance_30 rfl (lv_at hl 2 rfl) ?_
      obtain ⟨hn4, h⟩ := h
      refine mr_iald hx hb hK hP (((3 + 6 * a1.toNatClampNeg) + 4) + 1) 0 (xk_lt (xk_SB (xk_BS (xk_B hn3))) (by decide)) (xm_7 (xk_SB (xk_BS (xk_B hn3))) _ _) rfl hn4 dF_balance_31 ?_
      exact me_i hx hb hr hlk hP hS h dF_balance_32
    · have h := h.2 hc
      refine lv_iconst (v := (-1)) hx hb dF_balance_16 (by decide) ?_
      exact me_i hx hb hr hlk hP hS h dF_balance_17
def wp_F_punished (R : Int32 → mI → mJ → Prop) (I0 : mI) (J0 : mJ) (a1 : Int32) (a2 : Int32) : Prop :=
  (((fF_isBlock I0 J0 a1) = 0 → R 0 I0 J0) ∧ (¬ ((fF_isBlock I0 J0 a1) = 0) → (((fF_isValidator I0 J0 a2) = 0 → R 0 I0 J0) ∧ (¬ ((fF_isValidator I0 J0 a2) = 0) → (vp_in a1 60 ∧ (((fF_isIn I0 J0 (I0 ((3 + 6 * a1.toNatClampNeg) + 4) 1) a2) = 0 → R 0 I0 J0) ∧ (¬ ((fF_isIn I0 J0 (I0 ((3 + 6 * a1.toNatClampNeg) + 4) 1) a2) = 0) → R 1 I0 J0)))))))
theorem P_F_punished (S : mI) (I0 : mI) (J0 : mJ) (a1 : Int32) (a2 : Int32)  (hp : pX2 S I0 J0 a1 a2)  (R : Int32 → mI → mJ → Prop)  (hR : R (fF_punished S I0 J0 a1 a2) I0 J0) : wp_F_punished R I0 J0 a1 a2 := by
  have hX : XR S I0 J0 := hp
  have hb := hX.1.b
  unfold fF_punished rPun at hR
  unfold wp_F_punished
  refine ⟨fun h => ?_, fun h => ⟨fun h2 => ?_, fun h2 => ?_⟩⟩
  · rw [if_pos (Or.inl (hX.isB.mp h))] at hR
    exact hR
  · rw [if_pos (Or.inr (hX.isD.mp h2))] at hR
    exact hR
  · have h1 : iBl S a1 := nn (fun q => h (hX.isB.mpr q))
    have h3 : iVd S a2 := nn (fun q => h2 (hX.isD.mpr q))
    rw [if_neg (fun q => q.elim (fun z => z h1) (fun z => z h3))] at hR
    obtain ⟨n, hn, rfl⟩ := hX.1.iB h1
    obtain ⟨v, hv, rfl⟩ := hX.1.iD h3
    rw [cN_nI (by omega), cN_nI (by omega)] at hR
    have hE := (hX.2.2.2.1 n hn).2.2.2.2.2.2
    unfold fF_isIn
    rw [show (nI n).toNatClampNeg = n from nI_clamp (by omega), fBit_bz _ (by omega), hE.2.1 v (by omega)]
    exact ⟨vp_in_nI (by omega) (by omega), fun q => by rw [bz_0.mp q] at hR; exact hR, fun q => by rw [bz_n0.mp q] at hR; exact hR⟩
set_option maxHeartbeats 4000000 in
set_option maxRecDepth 100000 in
theorem C_F_punished (l : Launch) (D : va_G) (ca : Nat → Nat) (ad : Nat → Nat) (S : mI) (I0 : mI) (J0 : mJ) (a1 : Int32) (a2 : Int32)  (hp : pX2 S I0 J0 a1 a2) : Met l yF_punished wF_punished ({ frames := 1, cells := 0, slots := 0, locals := 21 } : Room) (va_Pc [.ref (ad 0), .int a1, .int a2] (mPre D vwCl (xty ca) 459 ad (xmk ca ad) nL I0 J0)) (mQi D vwCl 459 ad (xmk ca ad) (fun r I' J' => r = fF_punished S I0 J0 a1 a2 ∧ I' = I0 ∧ J' = J0)) 0 0 (mA 459 ad) := by
  refine Met.ofW (cc := cF_punished) (maxL := 3) (ret := (some .boolean)) (by decide) rfl ?_
  intro p e s m args below meth c s₁ B hml hv
  obtain ⟨rfl, hP, hK, hD0, hN⟩ := hv
  have hx := B.exec
  have hb := B.bytes
  have hr := B.returns
  have htb : ∀ w ∈ wb, w.before _ s = true := fun w h => atoms_spec (ws := wF_punished) B.pre w (List.mem_cons_of_mem _ h)
  have hown : s.vm.findClass RF = some m.cls := findClass_of_methodNamed B.named
  have hlk := B.notSynchronized
  have hD := mw_Dm hD0
  have hS : va_S (mA 459 ad) s.heap s.heap [] := va_S.rf
  have hl := lv_entry ([.ref (ad 0), .int a1, .int a2]) (n := 3) (Nat.le_of_ble_eq_true rfl)
  rw [lg_entry_eq]
  generalize (lg_sl ([.ref (ad 0), .int a1, .int a2]) ++ List.replicate (3 - (lg_sl ([.ref (ad 0), .int a1, .int a2])).length) Slot.unset).toArray = ls at hl ⊢
  have hl : lv_has ls 3 [(0, .ref (ad 0)), (1, .int a1), (2, .int a2)] := hl
  have h := P_F_punished S I0 J0 a1 a2  hp  (fun r I' J' => r = fF_punished S I0 J0 a1 a2 ∧ I' = I0 ∧ J' = J0)  ⟨rfl, rfl, rfl⟩
  unfold wp_F_punished at h
  refine lv_aload_n hx hb dF_punished_0 rfl (lv_at hl 0 rfl) ?_
  refine lv_iload_n hx hb dF_punished_1 rfl (lv_at hl 1 rfl) ?_
  refine mc_r (va_runV (As := [.int a1]) (rest := []) ⟨hx, hb, hml, hown, htb⟩ (C_F_isBlock l D ca ad I0 J0 a1) (cwV 1 htb (gd_v k1_204 k1_206 ks1 k1_1 k1_207) rfl rfl rfl (by decide +kernel) ⟨Nat.le_of_ble_eq_true rfl, Nat.le_of_ble_eq_true rfl⟩) (mPre_V hK hP hD hN rfl (mw_at (xk_lt (show xk 0 = 0 from rfl) (by decide)) (xm_F (show xk 0 = 0 from rfl) _ _))) rfl rfl hl.1 rfl (lv_room (Nat.le_of_ble_eq_true rfl)) dF_punished_2 ⟨Nat.le_of_ble_eq_true rfl, Nat.le_of_ble_eq_true rfl⟩) hS (fun H locs hP hS => ?_)
  refine lv_if_eq (tgt := 39) hx hb dF_punished_5 (by decide) (fun hc => ?_) (fun hc => ?_)
  · have h := h.1 hc
    refine lv_iconst (v := 0) hx hb dF_punished_39 (by decide) ?_
    exact me_z hx hb hr hlk hP hS rfl h dF_punished_40
  · have h := h.2 hc
    refine lv_aload_n hx hb dF_punished_8 rfl (lv_at hl 0 rfl) ?_
    refine lv_iload_n hx hb dF_punished_9 rfl (lv_at hl 2 rfl) ?_
    refine mc_r (va_runV (As := [.int a2]) (rest := []) ⟨hx, hb, hml, hown, htb⟩ (C_F_isValidator l D ca ad I0 J0 a2) (cwV 1 htb (gd_v k1_200 k1_202 ks0 k1_1 k1_203) rfl rfl rfl (by decide +kernel) ⟨Nat.le_of_ble_eq_true rfl, Nat.le_of_ble_eq_true rfl⟩) (mPre_V hK hP hD hN rfl (mw_at (xk_lt (show xk 0 = 0 from rfl) (by decide)) (xm_F (show xk 0 = 0 from rfl) _ _))) rfl rfl hl.1 rfl (lv_room (Nat.le_of_ble_eq_true rfl)) dF_punished_10 ⟨Nat.le_of_ble_eq_true rfl, Nat.le_of_ble_eq_true rfl⟩) hS (fun H locs hP hS => ?_)
    refine lv_if_eq (tgt := 39) hx hb dF_punished_13 (by decide) (fun hc => ?_) (fun hc => ?_)
    · have h := h.1 hc
      refine lv_iconst (v := 0) hx hb dF_punished_39 (by decide) ?_
      exact me_z hx hb hr hlk hP hS rfl h dF_punished_40
    · have h := h.2 hc
      refine lv_aload_n hx hb dF_punished_16 rfl (lv_at hl 0 rfl) ?_
      refine va_get (D := D) (ci := 5) (v := .ref (ad 2)) (C := RF) (T := TF) (N := 11) hx hb htb inF hown hK hP 0 (mw_at (xk_lt (show xk 0 = 0 from rfl) (by decide)) (xm_F (show xk 0 = 0 from rfl) _ _)) rfl 4 (by decide) (htb _ k1_166) (fun _ h9 => h9) rfl dF_punished_17 ?_
      refine lv_iload_n hx hb dF_punished_20 rfl (lv_at hl 1 rfl) ?_
      obtain ⟨hn3, h⟩ := h
      refine mr_aald hx hb hK hP 2 2 (xk_lt (show xk 2 = 2 from rfl) (by decide)) (xm_BA (show xk 2 = 2 from rfl) _ _) rfl hn3 dF_punished_21 ?_
      refine va_get (D := D) (ci := 0) (v := .ref (ad ((3 + 6 * a1.toNatClampNeg) + 4))) (C := RB) (T := TB) (N := 6) hx hb htb inB hown hK hP (3 + 6 * a1.toNatClampNeg) (mw_at (xk_lt (xk_B hn3) (by decide)) (xm_B (xk_B hn3) _ _)) rfl 5 (by decide) (htb _ k1_92) (fun _ h9 => h9) rfl dF_punished_22 ?_
      refine va_get (D := D) (ci := 3) (v := .int (I0 ((3 + 6 * a1.toNatClampNeg) + 4) 1)) (C := RS) (T := TS) (N := 7) hx hb htb inS hown hK hP ((3 + 6 * a1.toNatClampNeg) + 4) (mw_at (xk_lt (xk_BS (xk_B hn3)) (by decide)) (xm_S (xk_BS (xk_B hn3)) _ _)) rfl 1 (by decide) (htb _ k1_60) (fun _ h9 => h9) rfl dF_punished_25 ?_
      refine lv_iload_n hx hb dF_punished_28 rfl (lv_at hl 2 rfl) ?_
      refine mc_r (va_runS (As := [.int (I0 ((3 + 6 * a1.toNatClampNeg) + 4) 1), .int a2]) (rest := []) ⟨hx, hb, hml, hown, htb⟩ (C_F_isIn l D ca ad I0 J0 (I0 ((3 + 6 * a1.toNatClampNeg) + 4) 1) a2) (va_cwS 2 htb (gd_s k2_19 k2_20 k1_1 k2_21) rfl rfl rfl (by decide +kernel) ⟨Nat.le_of_ble_eq_true rfl, Nat.le_of_ble_eq_true rfl⟩) (mPre_S hK hP hD hN) rfl rfl hl.1 rfl (lv_room (Nat.le_of_ble_eq_true rfl)) dF_punished_29 ⟨Nat.le_of_ble_eq_true rfl, Nat.le_of_ble_eq_true rfl⟩) hS (fun H locs hP hS => ?_)
      refine lv_if_eq (tgt := 39) hx hb dF_punished_32 (by decide) (fun hc => ?_) (fun hc => ?_)
      · have h := h.1 hc
        refine lv_iconst (v := 0) hx hb dF_punished_39 (by decide) ?_
        exact me_z hx hb hr hlk hP hS rfl h dF_punished_40
      · have h := h.2 hc
        refine lv_iconst (v := 1) hx hb dF_punished_35 (by decide) ?_
        refine lv_goto (tgt := 40) hx hb dF_punished_36 (by decide) ?_
        exact me_z hx hb hr hlk hP hS rfl h dF_punished_40
def wp_F_counted (R : Int32 → mI → mJ → Prop) (I0 : mI) (J0 : mJ) (a1 : Int32) (a2 : Int32) : Prop :=
  ((¬ ((fF_isBlock I0 J0 a1) = 0) → (vp_in a1 60 ∧ (∃ (S4 : mI), (pF_weightOf S4 I0 J0 (fS_countedFor I0 J0 ((3 + 6 * a1.toNatClampNeg) + 4) a2) ∧ R (fF_weightOf S4 I0 J0 (fS_countedFor I0 J0 ((3 + 6 * a1.toNatClampNeg) + 4) a2)) I0 J0)))) ∧ ((fF_isBlock I0 J0 a1) = 0 → R (-1) I0 J0))
theorem P_F_counted (S : mI) (I0 : mI) (J0 : mJ) (a1 : Int32) (a2 : Int32)  (hp : pX2 S I0 J0 a1 a2)  (R : Int32 → mI → mJ → Prop)  (hR : R (fF_counted S I0 J0 a1 a2) I0 J0) : wp_F_counted R I0 J0 a1 a2 := by
  have hX : XR S I0 J0 := hp
  have hb := hX.1.b
  unfold fF_counted rCtd at hR
  unfold wp_F_counted
  refine ⟨fun h => ?_, fun h => ?_⟩
  · have h1 : iBl S a1 := nn (fun q => h (hX.isB.mpr q))
    rw [if_neg (fun q => q h1)] at hR
    obtain ⟨n, hn, rfl⟩ := hX.1.iB h1
    rw [cN_nI (by omega)] at hR
    have hE := (hX.2.2.2.1 n hn).2.2.2.2.2.2
    rw [show (nI n).toNatClampNeg = n from nI_clamp (by omega)]
    refine ⟨vp_in_nI (by omega) (by omega), S, hX, ?_⟩
    unfold fF_weightOf fS_countedFor
    rw [hE.2.2.2.2.1]
    by_cases q1 : a2 = nI (gE (gS S n))
    · rw [if_pos q1] at hR ⊢
      rw [zSum_congr S (f := bt (I0 (3 + 6 * n + 4) 5)) (g := gN (gS S n)) (zNv S) (fun w hw => hE.2.2.2.2.2.1 w (by omega))]
      exact hR
    · rw [if_neg q1] at hR ⊢
      by_cases q2 : a2 = nI (gE (gS S n)) - 1
      · rw [if_pos q2] at hR ⊢
        rw [zSum_congr S (f := bt (I0 (3 + 6 * n + 4) 6)) (g := gO (gS S n)) (zNv S) (fun w hw => hE.2.2.2.2.2.2 w (by omega))]
        exact hR
      · rw [if_neg q2] at hR ⊢
        have e : ∀ k, zSum S (bt 0) k = 0 := by
          intro k
          induction k with
          | zero => rfl
          | succ k ih => rw [zSum_f (b_0 k), ih]
        rw [e]
        exact hR
  · rw [if_pos (hX.isB.mp h)] at hR
    exact hR
set_option maxHeartbeats 4000000 in
set_option maxRecDepth 100000 in
theorem C_F_counted (l : Launch) (D : va_G) (ca : Nat → Nat) (ad : Nat → Nat) (S : mI) (I0 : mI) (J0 : mJ) (a1 : Int32) (a2 : Int32)  (hp : pX2 S I0 J0 a1 a2) : Met l yF_counted wF_counted ({ frames := 2, cells := 0, slots := 0, locals := 44 } : Room) (va_Pc [.ref (ad 0), .int a1, .int a2] (mPre D vwCl (xty ca) 459 ad (xmk ca ad) nL I0 J0)) (mQi D vwCl 459 ad (xmk ca ad) (fun r I' J' => r = fF_counted S I0 J0 a1 a2 ∧ I' = I0 ∧ J' = J0)) 0 0 (mA 459 ad) := by
  refine Met.ofW (cc := cF_counted) (maxL := 3) (ret := (some .int)) (by decide) rfl ?_
  intro p e s m args below meth c s₁ B hml hv
  obtain ⟨rfl, hP, hK, hD0, hN⟩ := hv
  have hx := B.exec
  have hb := B.bytes
  have hr := B.returns
  have htb : ∀ w ∈ wb, w.before _ s = true := fun w h => atoms_spec (ws := wF_counted) B.pre w (List.mem_cons_of_mem _ h)
  have hown : s.vm.findClass RF = some m.cls := findClass_of_methodNamed B.named
  have hlk := B.notSynchronized
  have hD := mw_Dm hD0
  have hS : va_S (mA 459 ad) s.heap s.heap [] := va_S.rf
  have hl := lv_entry ([.ref (ad 0), .int a1, .int a2]) (n := 3) (Nat.le_of_ble_eq_true rfl)
  rw [lg_entry_eq]
  generalize (lg_sl ([.ref (ad 0), .int a1, .int a2]) ++ List.replicate (3 - (lg_sl ([.ref (ad 0), .int a1, .int a2])).length) Slot.unset).toArray = ls at hl ⊢
  have hl : lv_has ls 3 [(0, .ref (ad 0)), (1, .int a1), (2, .int a2)] := hl
  have h := P_F_counted S I0 J0 a1 a2  hp  (fun r I' J' => r = fF_counted S I0 J0 a1 a2 ∧ I' = I0 ∧ J' = J0)  ⟨rfl, rfl, rfl⟩
  unfold wp_F_counted at h
  refine lv_aload_n hx hb dF_counted_0 rfl (lv_at hl 0 rfl) ?_
  refine lv_iload_n hx hb dF_counted_1 rfl (lv_at hl 1 rfl) ?_
  refine mc_r (va_runV (As := [.int a1]) (rest := []) ⟨hx, hb, hml, hown, htb⟩ (C_F_isBlock l D ca ad I0 J0 a1) (cwV 1 htb (gd_v k1_204 k1_206 ks1 k1_1 k1_207) rfl rfl rfl (by decide +kernel) ⟨Nat.le_of_ble_eq_true rfl, Nat.le_of_ble_eq_true rfl⟩) (mPre_V hK hP hD hN rfl (mw_at (xk_lt (show xk 0 = 0 from rfl) (by decide)) (xm_F (show xk 0 = 0 from rfl) _ _))) rfl rfl hl.1 rfl (lv_room (Nat.le_of_ble_eq_true rfl)) dF_counted_2 ⟨Nat.le_of_ble_eq_true rfl, Nat.le_of_ble_eq_true rfl⟩) hS (fun H locs hP hS => ?_)
  refine lv_if_ne (tgt := 10) hx hb dF_counted_5 (by decide) (fun hc => ?_) (fun hc => ?_)
  · have h := h.1 hc
    refine lv_aload_n hx hb dF_counted_10 rfl (lv_at hl 0 rfl) ?_
    refine lv_aload_n hx hb dF_counted_11 rfl (lv_at hl 0 rfl) ?_
    refine va_get (D := D) (ci := 5) (v := .ref (ad 2)) (C := RF) (T := TF) (N := 11) hx hb htb inF hown hK hP 0 (mw_at (xk_lt (show xk 0 = 0 from rfl) (by decide)) (xm_F (show xk 0 = 0 from rfl) _ _)) rfl 4 (by decide) (htb _ k1_166) (fun _ h9 => h9) rfl dF_counted_12 ?_
    refine lv_iload_n hx hb dF_counted_15 rfl (lv_at hl 1 rfl) ?_
    obtain ⟨hn2, h⟩ := h
    refine mr_aald hx hb hK hP 2 2 (xk_lt (show xk 2 = 2 from rfl) (by decide)) (xm_BA (show xk 2 = 2 from rfl) _ _) rfl hn2 dF_counted_16 ?_
    refine va_get (D := D) (ci := 0) (v := .ref (ad ((3 + 6 * a1.toNatClampNeg) + 4))) (C := RB) (T := TB) (N := 6) hx hb htb inB hown hK hP (3 + 6 * a1.toNatClampNeg) (mw_at (xk_lt (xk_B hn2) (by decide)) (xm_B (xk_B hn2) _ _)) rfl 5 (by decide) (htb _ k1_92) (fun _ h9 => h9) rfl dF_counted_17 ?_
    refine lv_iload_n hx hb dF_counted_20 rfl (lv_at hl 2 rfl) ?_
    refine mc_r (va_runV (As := [.int a2]) (rest := [.ref (ad 0)]) ⟨hx, hb, hml, hown, htb⟩ (C_S_countedFor l D ca ad I0 J0 ((3 + 6 * a1.toNatClampNeg) + 4) a2 (xk_BS (xk_B hn2))) (cwV 1 htb (gd_v k2_42 k2_43 k2_44 k1_5 k2_45) rfl rfl rfl (by decide +kernel) ⟨Nat.le_of_ble_eq_true rfl, Nat.le_of_ble_eq_true rfl⟩) (mPre_V hK hP hD hN rfl (mw_at (xk_lt (xk_BS (xk_B hn2)) (by decide)) (xm_S (xk_BS (xk_B hn2)) _ _))) rfl rfl hl.1 rfl (lv_room (Nat.le_of_ble_eq_true rfl)) dF_counted_21 ⟨Nat.le_of_ble_eq_true rfl, Nat.le_of_ble_eq_true rfl⟩) hS (fun H locs hP hS => ?_)
    obtain ⟨S4, h⟩ := h
    obtain ⟨hp5, h⟩ := h
    refine mc_r (va_runV (As := [.int (fS_countedFor I0 J0 ((3 + 6 * a1.toNatClampNeg) + 4) a2)]) (rest := []) ⟨hx, hb, hml, hown, htb⟩ (C_F_weightOf l D ca ad S4 I0 J0 (fS_countedFor I0 J0 ((3 + 6 * a1.toNatClampNeg) + 4) a2) hp5) (cwV 1 htb (gd_v k2_50 k2_52 ks9 k1_1 k2_53) rfl rfl rfl (by decide +kernel) ⟨Nat.le_of_ble_eq_true rfl, Nat.le_of_ble_eq_true rfl⟩) (mPre_V hK hP hD hN rfl (mw_at (xk_lt (show xk 0 = 0 from rfl) (by decide)) (xm_F (show xk 0 = 0 from rfl) _ _))) rfl rfl hl.1 rfl (lv_room (Nat.le_of_ble_eq_true rfl)) dF_counted_24 ⟨Nat.le_of_ble_eq_true rfl, Nat.le_of_ble_eq_true rfl⟩) hS (fun H locs hP hS => ?_)
    exact me_i hx hb hr hlk hP hS h dF_counted_27
  · have h := h.2 hc
    refine lv_iconst (v := (-1)) hx hb dF_counted_8 (by decide) ?_
    exact me_i hx hb hr hlk hP hS h dF_counted_9
def wp_F_ballot (R : Int32 → mI → mJ → Prop) (I0 : mI) (J0 : mJ) (a1 : Int32) (a2 : Int32) : Prop :=
  ((¬ ((fF_isVote I0 J0 a1) = 0) → (vp_in a1 80 ∧ ((a2 = 0 → R (I0 (364 + a1.toNatClampNeg) 0) I0 J0) ∧ (a2 = 1 → R (I0 (364 + a1.toNatClampNeg) 1) I0 J0) ∧ (a2 = 2 → R (I0 (364 + a1.toNatClampNeg) 2) I0 J0) ∧ (a2 = 3 → R (fF_epochOf I0 J0 (I0 (364 + a1.toNatClampNeg) 3)) I0 J0) ∧ (a2 = 4 → R (fF_blockOf I0 J0 (I0 (364 + a1.toNatClampNeg) 3)) I0 J0) ∧ (a2 = 5 → R (fF_epochOf I0 J0 (I0 (364 + a1.toNatClampNeg) 4)) I0 J0) ∧ (a2 = 6 → R (fF_blockOf I0 J0 (I0 (364 + a1.toNatClampNeg) 4)) I0 J0) ∧ (¬ a2 = 0 ∧ ¬ a2 = 1 ∧ ¬ a2 = 2 ∧ ¬ a2 = 3 ∧ ¬ a2 = 4 ∧ ¬ a2 = 5 ∧ ¬ a2 = 6 → R (-1) I0 J0)))) ∧ ((fF_isVote I0 J0 a1) = 0 → R (-1) I0 J0))
theorem P_F_ballot (S : mI) (I0 : mI) (J0 : mJ) (a1 : Int32) (a2 : Int32)  (hp : pX2 S I0 J0 a1 a2)  (R : Int32 → mI → mJ → Prop)  (hR : R (fF_ballot S I0 J0 a1 a2) I0 J0) : wp_F_ballot R I0 J0 a1 a2 := by
  have hX : XR S I0 J0 := hp
  have hb := hX.1.b
  unfold fF_ballot rBlt at hR
  unfold wp_F_ballot
  refine ⟨fun h => ?_, fun h => ?_⟩
  · have h1 : iVt S a1 := nn (fun q => h (hX.isV.mpr q))
    rw [if_neg (fun q => q h1)] at hR
    obtain ⟨n, hn, rfl⟩ := hX.1.iV h1
    rw [cN_nI (by omega)] at hR
    have hB := hX.2.2.1 n hn
    have hv := hX.1.v hn
    have hV := hX.1.2.2.2.1 n hn
    unfold fF_epochOf fF_blockOf
    rw [show (nI n).toNatClampNeg = n from nI_clamp (by omega), hB.1, hB.2.1, hB.2.2.1, hX.v3 hn, hX.v4 hn, fEp_ck (by omega) (by omega), fEp_ck (by omega) (by omega), ck_bl (by omega) (by omega), ck_bl (by omega) (by omega), ← hV.2.2.2.2.2.2.1, ← hV.2.2.2.2.2.2.2.2.1, ← hV.2.2.2.2.2.2.2.2.2.2.1, ← hV.2.2.2.2.2.2.2.2.2.2.2.2.1]
    refine ⟨vp_in_nI (by omega) (by omega), fun hw => ?_, fun hw => ?_, fun hw => ?_, fun hw => ?_, fun hw => ?_, fun hw => ?_, fun hw => ?_, fun hw => ?_⟩
    · subst hw; rw [if_pos rfl] at hR; exact hR
    · subst hw; rw [if_neg (by decide), if_pos rfl] at hR; exact hR
    · subst hw; rw [if_neg (by decide), if_neg (by decide), if_pos rfl] at hR; exact hR
    · subst hw; rw [if_neg (by decide), if_neg (by decide), if_neg (by decide), if_pos rfl] at hR; exact hR
    · subst hw; rw [if_neg (by decide), if_neg (by decide), if_neg (by decide), if_neg (by decide), if_pos rfl] at hR; exact hR
    · subst hw; rw [if_neg (by decide), if_neg (by decide), if_neg (by decide), if_neg (by decide), if_neg (by decide), if_pos rfl] at hR; exact hR
    · subst hw; rw [if_neg (by decide), if_neg (by decide), if_neg (by decide), if_neg (by decide), if_neg (by decide), if_neg (by decide), if_pos rfl] at hR; exact hR
    · rw [if_neg hw.1, if_neg hw.2.1, if_neg hw.2.2.1, if_neg hw.2.2.2.1, if_neg hw.2.2.2.2.1, if_neg hw.2.2.2.2.2.1, if_neg hw.2.2.2.2.2.2] at hR; exact hR
  · rw [if_pos (hX.isV.mp h)] at hR
    exact hR
set_option maxHeartbeats 4000000 in
set_option maxRecDepth 100000 in
theorem C_F_ballot (l : Launch) (D : va_G) (ca : Nat → Nat) (ad : Nat → Nat) (S : mI) (I0 : mI) (J0 : mJ) (a1 : Int32) (a2 : Int32)  (hp : pX2 S I0 J0 a1 a2) : Met l yF_ballot wF_ballot ({ frames := 1, cells := 0, slots := 0, locals := 21 } : Room) (va_Pc [.ref (ad 0), .int a1, .int a2] (mPre D vwCl (xty ca) 459 ad (xmk ca ad) nL I0 J0)) (mQi D vwCl 459 ad (xmk ca ad) (fun r I' J' => r = fF_ballot S I0 J0 a1 a2 ∧ I' = I0 ∧ J' = J0)) 0 0 (mA 459 ad) := by
  refine Met.ofW (cc := cF_ballot) (maxL := 4) (ret := (some .int)) (by decide) rfl ?_
  intro p e s m args below meth c s₁ B hml hv
  obtain ⟨rfl, hP, hK, hD0, hN⟩ := hv
  have hx := B.exec
  have hb := B.bytes
  have hr := B.returns
  have htb : ∀ w ∈ wb, w.before _ s = true := fun w h => atoms_spec (ws := wF_ballot) B.pre w (List.mem_cons_of_mem _ h)
  have hown : s.vm.findClass RF = some m.cls := findClass_of_methodNamed B.named
  have hlk := B.notSynchronized
  have hD := mw_Dm hD0
  have hS : va_S (mA 459 ad) s.heap s.heap [] := va_S.rf
  have hl := lv_entry ([.ref (ad 0), .int a1, .int a2]) (n := 4) (Nat.le_of_ble_eq_true rfl)
  rw [lg_entry_eq]
  generalize (lg_sl ([.ref (ad 0), .int a1, .int a2]) ++ List.replicate (4 - (lg_sl ([.ref (ad 0), .int a1, .int a2])).length) Slot.unset).toArray = ls at hl ⊢
  have hl : lv_has ls 4 [(0, .ref (ad 0)), (1, .int a1), (2, .int a2)] := hl
  have h := P_F_ballot S I0 J0 a1 a2  hp  (fun r I' J' => r = fF_ballot S I0 J0 a1 a2 ∧ I' = I0 ∧ J' = J0)  ⟨rfl, rfl, rfl⟩
  unfold wp_F_ballot at h
  refine lv_aload_n hx hb dF_ballot_0 rfl (lv_at hl 0 rfl) ?_
  refine lv_iload_n hx hb dF_ballot_1 rfl (lv_at hl 1 rfl) ?_
  refine mc_r (va_runV (As := [.int a1]) (rest := []) ⟨hx, hb, hml, hown, htb⟩ (C_F_isVote l D ca ad I0 J0 a1) (cwV 1 htb (gd_v k1_230 k1_232 ks5 k1_1 k1_233) rfl rfl rfl (by decide +kernel) ⟨Nat.le_of_ble_eq_true rfl, Nat.le_of_ble_eq_true rfl⟩) (mPre_V hK hP hD hN rfl (mw_at (xk_lt (show xk 0 = 0 from rfl) (by decide)) (xm_F (show xk 0 = 0 from rfl) _ _))) rfl rfl hl.1 rfl (lv_room (Nat.le_of_ble_eq_true rfl)) dF_ballot_2 ⟨Nat.le_of_ble_eq_true rfl, Nat.le_of_ble_eq_true rfl⟩) hS (fun H locs hP hS => ?_)
  refine lv_if_ne (tgt := 10) hx hb dF_ballot_5 (by decide) (fun hc => ?_) (fun hc => ?_)
  · have h := h.1 hc
    refine lv_aload_n hx hb dF_ballot_10 rfl (lv_at hl 0 rfl) ?_
    refine va_get (D := D) (ci := 5) (v := .ref (ad 363)) (C := RF) (T := TF) (N := 11) hx hb htb inF hown hK hP 0 (mw_at (xk_lt (show xk 0 = 0 from rfl) (by decide)) (xm_F (show xk 0 = 0 from rfl) _ _)) rfl 6 (by decide) (htb _ k1_168) (fun _ h9 => h9) rfl dF_ballot_11 ?_
    refine lv_iload_n hx hb dF_ballot_14 rfl (lv_at hl 1 rfl) ?_
    obtain ⟨hn2, h⟩ := h
    refine mr_aald hx hb hK hP 363 3 (xk_lt (show xk 363 = 7 from rfl) (by decide)) (xm_VA (show xk 363 = 7 from rfl) _ _) rfl hn2 dF_ballot_15 ?_
    refine lv_astore_n (lv' := [(3, .ref (ad (364 + a1.toNatClampNeg))), (0, .ref (ad 0)), (1, .int a1), (2, .int a2)]) hx hb dF_ballot_16 rfl hl (by decide) rfl (fun ls hl => ?_)
    refine lv_iload_n hx hb dF_ballot_17 rfl (lv_at hl 3 rfl) ?_
    by_cases hc0 : a2 = 0
    · have h := h.1 hc0
      refine lv_tableIn (off := 42) (tgt := 60) hx hb dF_ballot_18 (by rw [hc0]; decide) (by rw [hc0]; decide) (by rw [hc0]; rfl) (by decide) ?_
      refine lv_aload_n hx hb dF_ballot_60 rfl (lv_at hl 0 rfl) ?_
      refine va_get (D := D) (ci := 4) (v := .int (I0 (364 + a1.toNatClampNeg) 0)) (C := RV) (T := TV) (N := 5) hx hb htb inV hown hK hP (364 + a1.toNatClampNeg) (mw_at (xk_lt (xk_V hn2) (by decide)) (xm_V (xk_V hn2) _ _)) rfl 0 (by decide) (htb _ k1_113) (fun _ h9 => h9) rfl dF_ballot_61 ?_
      exact me_i hx hb hr hlk hP hS h dF_ballot_64
    by_cases hc1 : a2 = 1
    · have h := h.2.1 hc1
      refine lv_tableIn (off := 47) (tgt := 65) hx hb dF_ballot_18 (by rw [hc1]; decide) (by rw [hc1]; decide) (by rw [hc1]; rfl) (by decide) ?_
      refine lv_aload_n hx hb dF_ballot_65 rfl (lv_at hl 0 rfl) ?_
      refine va_get (D := D) (ci := 4) (v := .int (I0 (364 + a1.toNatClampNeg) 1)) (C := RV) (T := TV) (N := 5) hx hb htb inV hown hK hP (364 + a1.toNatClampNeg) (mw_at (xk_lt (xk_V hn2) (by decide)) (xm_V (xk_V hn2) _ _)) rfl 1 (by decide) (htb _ k1_114) (fun _ h9 => h9) rfl dF_ballot_66 ?_
      exact me_i hx hb hr hlk hP hS h dF_ballot_69
    by_cases hc2 : a2 = 2
    · have h := h.2.2.1 hc2
      refine lv_tableIn (off := 52) (tgt := 70) hx hb dF_ballot_18 (by rw [hc2]; decide) (by rw [hc2]; decide) (by rw [hc2]; rfl) (by decide) ?_
      refine lv_aload_n hx hb dF_ballot_70 rfl (lv_at hl 0 rfl) ?_
      refine va_get (D := D) (ci := 4) (v := .int (I0 (364 + a1.toNatClampNeg) 2)) (C := RV) (T := TV) (N := 5) hx hb htb inV hown hK hP (364 + a1.toNatClampNeg) (mw_at (xk_lt (xk_V hn2) (by decide)) (xm_V (xk_V hn2) _ _)) rfl 2 (by decide) (htb _ k1_115) (fun _ h9 => h9) rfl dF_ballot_71 ?_
      exact me_i hx hb hr hlk hP hS h dF_ballot_74
    by_cases hc3 : a2 = 3
    · have h := h.2.2.2.1 hc3
      refine lv_tableIn (off := 57) (tgt := 75) hx hb dF_ballot_18 (by rw [hc3]; decide) (by rw [hc3]; decide) (by rw [hc3]; rfl) (by decide) ?_
      refine lv_aload_n hx hb dF_ballot_75 rfl (lv_at hl 0 rfl) ?_
      refine va_get (D := D) (ci := 4) (v := .int (I0 (364 + a1.toNatClampNeg) 3)) (C := RV) (T := TV) (N := 5) hx hb htb inV hown hK hP (364 + a1.toNatClampNeg) (mw_at (xk_lt (xk_V hn2) (by decide)) (xm_V (xk_V hn2) _ _)) rfl 3 (by decide) (htb _ k1_117) (fun _ h9 => h9) rfl dF_ballot_76 ?_
      refine mc_r (va_runS (As := [.int (I0 (364 + a1.toNatClampNeg) 3)]) (rest := []) ⟨hx, hb, hml, hown, htb⟩ (C_F_epochOf l D ca ad I0 J0 (I0 (364 + a1.toNatClampNeg) 3)) (va_cwS 1 htb (gd_s k1_219 k1_220 k1_1 k1_221) rfl rfl rfl (by decide +kernel) ⟨Nat.le_of_ble_eq_true rfl, Nat.le_of_ble_eq_true rfl⟩) (mPre_S hK hP hD hN) rfl rfl hl.1 rfl (lv_room (Nat.le_of_ble_eq_true rfl)) dF_ballot_79 ⟨Nat.le_of_ble_eq_true rfl, Nat.le_of_ble_eq_true rfl⟩) hS (fun H locs hP hS => ?_)
      exact me_i hx hb hr hlk hP hS h dF_ballot_82
    by_cases hc4 : a2 = 4
    · have h := h.2.2.2.2.1 hc4
      refine lv_tableIn (off := 65) (tgt := 83) hx hb dF_ballot_18 (by rw [hc4]; decide) (by rw [hc4]; decide) (by rw [hc4]; rfl) (by decide) ?_
      refine lv_aload_n hx hb dF_ballot_83 rfl (lv_at hl 0 rfl) ?_
      refine va_get (D := D) (ci := 4) (v := .int (I0 (364 + a1.toNatClampNeg) 3)) (C := RV) (T := TV) (N := 5) hx hb htb inV hown hK hP (364 + a1.toNatClampNeg) (mw_at (xk_lt (xk_V hn2) (by decide)) (xm_V (xk_V hn2) _ _)) rfl 3 (by decide) (htb _ k1_117) (fun _ h9 => h9) rfl dF_ballot_84 ?_
      refine mc_r (va_runS (As := [.int (I0 (364 + a1.toNatClampNeg) 3)]) (rest := []) ⟨hx, hb, hml, hown, htb⟩ (C_F_blockOf l D ca ad I0 J0 (I0 (364 + a1.toNatClampNeg) 3)) (va_cwS 1 htb (gd_s k2_72 k2_73 k1_1 k2_74) rfl rfl rfl (by decide +kernel) ⟨Nat.le_of_ble_eq_true rfl, Nat.le_of_ble_eq_true rfl⟩) (mPre_S hK hP hD hN) rfl rfl hl.1 rfl (lv_room (Nat.le_of_ble_eq_true rfl)) dF_ballot_87 ⟨Nat.le_of_ble_eq_true rfl, Nat.le_of_ble_eq_true rfl⟩) hS (fun H locs hP hS => ?_)
      exact me_i hx hb hr hlk hP hS h dF_ballot_90
    by_cases hc5 : a2 = 5
    · have h := h.2.2.2.2.2.1 hc5
      refine lv_tableIn (off := 73) (tgt := 91) hx hb dF_ballot_18 (by rw [hc5]; decide) (by rw [hc5]; decide) (by rw [hc5]; rfl) (by decide) ?_
      refine lv_aload_n hx hb dF_ballot_91 rfl (lv_at hl 0 rfl) ?_
      refine va_get (D := D) (ci := 4) (v := .int (I0 (364 + a1.toNatClampNeg) 4)) (C := RV) (T := TV) (N := 5) hx hb htb inV hown hK hP (364 + a1.toNatClampNeg) (mw_at (xk_lt (xk_V hn2) (by decide)) (xm_V (xk_V hn2) _ _)) rfl 4 (by decide) (htb _ k1_119) (fun _ h9 => h9) rfl dF_ballot_92 ?_
      refine mc_r (va_runS (As := [.int (I0 (364 + a1.toNatClampNeg) 4)]) (rest := []) ⟨hx, hb, hml, hown, htb⟩ (C_F_epochOf l D ca ad I0 J0 (I0 (364 + a1.toNatClampNeg) 4)) (va_cwS 1 htb (gd_s k1_219 k1_220 k1_1 k1_221) rfl rfl rfl (by decide +kernel) ⟨Nat.le_of_ble_eq_true rfl, Nat.le_of_ble_eq_true rfl⟩) (mPre_S hK hP hD hN) rfl rfl hl.1 rfl (lv_room (Nat.le_of_ble_eq_true rfl)) dF_ballot_95 ⟨Nat.le_of_ble_eq_true rfl, Nat.le_of_ble_eq_true rfl⟩) hS (fun H locs hP hS => ?_)
      exact me_i hx hb hr hlk hP hS h dF_ballot_98
    by_cases hc6 : a2 = 6
    · have h := h.2.2.2.2.2.2.1 hc6
      refine lv_tableIn (off := 81) (tgt := 99) hx hb dF_ballot_18 (by rw [hc6]; decide) (by rw [hc6]; decide) (by rw [hc6]; rfl) (by decide) ?_
      refine lv_aload_n hx hb dF_ballot_99 rfl (lv_at hl 0 rfl) ?_
      refine va_get (D := D) (ci := 4) (v := .int (I0 (364 + a1.toNatClampNeg) 4)) (C := RV) (T := TV) (N := 5) hx hb htb inV hown hK hP (364 + a1.toNatClampNeg) (mw_at (xk_lt (xk_V hn2) (by decide)) (xm_V (xk_V hn2) _ _)) rfl 4 (by decide) (htb _ k1_119) (fun _ h9 => h9) rfl dF_ballot_100 ?_
      refine mc_r (va_runS (As := [.int (I0 (364 + a1.toNatClampNeg) 4)]) (rest := []) ⟨hx, hb, hml, hown, htb⟩ (C_F_blockOf l D ca ad I0 J0 (I0 (364 + a1.toNatClampNeg) 4)) (va_cwS 1 htb (gd_s k2_72 k2_73 k1_1 k2_74) rfl rfl rfl (by decide +kernel) ⟨Nat.le_of_ble_eq_true rfl, Nat.le_of_ble_eq_true rfl⟩) (mPre_S hK hP hD hN) rfl rfl hl.1 rfl (lv_room (Nat.le_of_ble_eq_true rfl)) dF_ballot_103 ⟨Nat.le_of_ble_eq_true rfl, Nat.le_of_ble_eq_true rfl⟩) hS (fun H locs hP hS => ?_)
      exact me_i hx hb hr hlk hP hS h dF_ballot_106
    have h := h.2.2.2.2.2.2.2 ⟨hc0, hc1, hc2, hc3, hc4, hc5, hc6⟩
    refine lv_tableOut (tgt := 107) hx hb dF_ballot_18 (sw_out (by have q0 := sw_ne (k := 0) (n := 0) rfl hc0; have q1 := sw_ne (k := 1) (n := 1) rfl hc1; have q2 := sw_ne (k := 2) (n := 2) rfl hc2; have q3 := sw_ne (k := 3) (n := 3) rfl hc3; have q4 := sw_ne (k := 4) (n := 4) rfl hc4; have q5 := sw_ne (k := 5) (n := 5) rfl hc5; have q6 := sw_ne (k := 6) (n := 6) rfl hc6; omega)) (by decide) ?_
    refine lv_iconst (v := (-1)) hx hb dF_ballot_107 (by decide) ?_
    exact me_i hx hb hr hlk hP hS h dF_ballot_108
  · have h := h.2 hc
    refine lv_iconst (v := (-1)) hx hb dF_ballot_8 (by decide) ?_
    exact me_i hx hb hr hlk hP hS h dF_ballot_9
def wp_F_knows (R : Int32 → mI → mJ → Prop) (I0 : mI) (J0 : mJ) (a1 : Int32) (a2 : Int32) : Prop :=
  (((fF_isNode I0 J0 a1) = 0 → R 0 I0 J0) ∧ (¬ ((fF_isNode I0 J0 a1) = 0) → (((fF_isBlock I0 J0 a2) = 0 → R 0 I0 J0) ∧ (¬ ((fF_isBlock I0 J0 a2) = 0) → (vp_in a1 3 ∧ (((fN_isKnown I0 J0 (445 + 3 * a1.toNatClampNeg) a2) = 0 → R 0 I0 J0) ∧ (¬ ((fN_isKnown I0 J0 (445 + 3 * a1.toNatClampNeg) a2) = 0) → R 1 I0 J0)))))))
theorem P_F_knows (S : mI) (I0 : mI) (J0 : mJ) (a1 : Int32) (a2 : Int32)  (hp : pX2 S I0 J0 a1 a2)  (R : Int32 → mI → mJ → Prop)  (hR : R (fF_knows S I0 J0 a1 a2) I0 J0) : wp_F_knows R I0 J0 a1 a2 := by
  have hX : XR S I0 J0 := hp
  have hb := hX.1.b
  unfold fF_knows rKno at hR
  unfold wp_F_knows fN_isKnown
  refine ⟨fun h => ?_, fun h => ⟨fun h2 => ?_, fun h2 => ?_⟩⟩
  · rw [if_pos (Or.inl (isN.mp h))] at hR
    exact hR
  · rw [if_pos (Or.inr (hX.isB.mp h2))] at hR
    exact hR
  · have h1 : iNd a1 := nn (fun q => h (isN.mpr q))
    have h3 : iBl S a2 := nn (fun q => h2 (hX.isB.mpr q))
    rw [if_neg (fun q => q.elim (fun z => z h1) (fun z => z h3))] at hR
    obtain ⟨n, hn, rfl⟩ := iNd_n h1
    obtain ⟨v, hv, rfl⟩ := hX.1.iB h3
    rw [cN_nI (by omega), cN_nI (by omega)] at hR
    rw [show (nI n).toNatClampNeg = n from nI_clamp (by omega), fLit_bz _ (by omega), hX.kn hn (by omega)]
    exact ⟨vp_in_nI (by omega) (by omega), fun q => by rw [bz_0.mp q] at hR; exact hR, fun q => by rw [bz_n0.mp q] at hR; exact hR⟩
set_option maxHeartbeats 4000000 in
set_option maxRecDepth 100000 in
theorem C_F_knows (l : Launch) (D : va_G) (ca : Nat → Nat) (ad : Nat → Nat) (S : mI) (I0 : mI) (J0 : mJ) (a1 : Int32) (a2 : Int32)  (hp : pX2 S I0 J0 a1 a2) : Met l yF_knows wF_knows ({ frames := 1, cells := 0, slots := 0, locals := 21 } : Room) (va_Pc [.ref (ad 0), .int a1, .int a2] (mPre D vwCl (xty ca) 459 ad (xmk ca ad) nL I0 J0)) (mQi D vwCl 459 ad (xmk ca ad) (fun r I' J' => r = fF_knows S I0 J0 a1 a2 ∧ I' = I0 ∧ J' = J0)) 0 0 (mA 459 ad) := by
  refine Met.ofW (cc := cF_knows) (maxL := 3) (ret := (some .boolean)) (by decide) rfl ?_
  intro p e s m args below meth c s₁ B hml hv
  obtain ⟨rfl, hP, hK, hD0, hN⟩ := hv
  have hx := B.exec
  have hb := B.bytes
  have hr := B.returns
  have htb : ∀ w ∈ wb, w.before _ s = true := fun w h => atoms_spec (ws := wF_knows) B.pre w (List.mem_cons_of_mem _ h)
  have hown : s.vm.findClass RF = some m.cls := findClass_of_methodNamed B.named
  have hlk := B.notSynchronized
  have hD := mw_Dm hD0
  have hS : va_S (mA 459 ad) s.heap s.heap [] := va_S.rf
  have hl := lv_entry ([.ref (ad 0), .int a1, .int a2]) (n := 3) (Nat.le_of_ble_eq_true rfl)
  rw [lg_entry_eq]
  generalize (lg_sl ([.ref (ad 0), .int a1, .int a2]) ++ List.replicate (3 - (lg_sl ([.ref (ad 0), .int a1, .int a2])).length) Slot.unset).toArray = ls at hl ⊢
  have hl : lv_has ls 3 [(0, .ref (ad 0)), (1, .int a1), (2, .int a2)] := hl
  have h := P_F_knows S I0 J0 a1 a2  hp  (fun r I' J' => r = fF_knows S I0 J0 a1 a2 ∧ I' = I0 ∧ J' = J0)  ⟨rfl, rfl, rfl⟩
  unfold wp_F_knows at h
  refine lv_iload_n hx hb dF_knows_0 rfl (lv_at hl 1 rfl) ?_
  refine mc_r (va_runS (As := [.int a1]) (rest := []) ⟨hx, hb, hml, hown, htb⟩ (C_F_isNode l D ca ad I0 J0 a1) (va_cwS 1 htb (gd_s k2_95 k2_96 k1_1 k2_97) rfl rfl rfl (by decide +kernel) ⟨Nat.le_of_ble_eq_true rfl, Nat.le_of_ble_eq_true rfl⟩) (mPre_S hK hP hD hN) rfl rfl hl.1 rfl (lv_room (Nat.le_of_ble_eq_true rfl)) dF_knows_1 ⟨Nat.le_of_ble_eq_true rfl, Nat.le_of_ble_eq_true rfl⟩) hS (fun H locs hP hS => ?_)
  refine lv_if_eq (tgt := 32) hx hb dF_knows_4 (by decide) (fun hc => ?_) (fun hc => ?_)
  · have h := h.1 hc
    refine lv_iconst (v := 0) hx hb dF_knows_32 (by decide) ?_
    exact me_z hx hb hr hlk hP hS rfl h dF_knows_33
  · have h := h.2 hc
    refine lv_aload_n hx hb dF_knows_7 rfl (lv_at hl 0 rfl) ?_
    refine lv_iload_n hx hb dF_knows_8 rfl (lv_at hl 2 rfl) ?_
    refine mc_r (va_runV (As := [.int a2]) (rest := []) ⟨hx, hb, hml, hown, htb⟩ (C_F_isBlock l D ca ad I0 J0 a2) (cwV 1 htb (gd_v k1_204 k1_206 ks1 k1_1 k1_207) rfl rfl rfl (by decide +kernel) ⟨Nat.le_of_ble_eq_true rfl, Nat.le_of_ble_eq_true rfl⟩) (mPre_V hK hP hD hN rfl (mw_at (xk_lt (show xk 0 = 0 from rfl) (by decide)) (xm_F (show xk 0 = 0 from rfl) _ _))) rfl rfl hl.1 rfl (lv_room (Nat.le_of_ble_eq_true rfl)) dF_knows_9 ⟨Nat.le_of_ble_eq_true rfl, Nat.le_of_ble_eq_true rfl⟩) hS (fun H locs hP hS => ?_)
    refine lv_if_eq (tgt := 32) hx hb dF_knows_12 (by decide) (fun hc => ?_) (fun hc => ?_)
    · have h := h.1 hc
      refine lv_iconst (v := 0) hx hb dF_knows_32 (by decide) ?_
      exact me_z hx hb hr hlk hP hS rfl h dF_knows_33
    · have h := h.2 hc
      refine lv_aload_n hx hb dF_knows_15 rfl (lv_at hl 0 rfl) ?_
      refine va_get (D := D) (ci := 5) (v := .ref (ad 444)) (C := RF) (T := TF) (N := 11) hx hb htb inF hown hK hP 0 (mw_at (xk_lt (show xk 0 = 0 from rfl) (by decide)) (xm_F (show xk 0 = 0 from rfl) _ _)) rfl 8 (by decide) (htb _ k1_170) (fun _ h9 => h9) rfl dF_knows_16 ?_
      refine lv_iload_n hx hb dF_knows_19 rfl (lv_at hl 1 rfl) ?_
      obtain ⟨hn3, h⟩ := h
      refine mr_aald hx hb hK hP 444 4 (xk_lt (show xk 444 = 9 from rfl) (by decide)) (xm_NA (show xk 444 = 9 from rfl) _ _) rfl hn3 dF_knows_20 ?_
      refine lv_iload_n hx hb dF_knows_21 rfl (lv_at hl 2 rfl) ?_
      refine mc_r (va_runV (As := [.int a2]) (rest := []) ⟨hx, hb, hml, hown, htb⟩ (C_N_isKnown l D ca ad I0 J0 (445 + 3 * a1.toNatClampNeg) a2 (xk_N hn3)) (cwV 1 htb (gd_v k2_98 k2_99 k2_100 k1_7 k2_101) rfl rfl rfl (by decide +kernel) ⟨Nat.le_of_ble_eq_true rfl, Nat.le_of_ble_eq_true rfl⟩) (mPre_V hK hP hD hN rfl (mw_at (xk_lt (xk_N hn3) (by decide)) (xm_N (xk_N hn3) _ _))) rfl rfl hl.1 rfl (lv_room (Nat.le_of_ble_eq_true rfl)) dF_knows_22 ⟨Nat.le_of_ble_eq_true rfl, Nat.le_of_ble_eq_true rfl⟩) hS (fun H locs hP hS => ?_)
      refine lv_if_eq (tgt := 32) hx hb dF_knows_25 (by decide) (fun hc => ?_) (fun hc => ?_)
      · have h := h.1 hc
        refine lv_iconst (v := 0) hx hb dF_knows_32 (by decide) ?_
        exact me_z hx hb hr hlk hP hS rfl h dF_knows_33
      · have h := h.2 hc
        refine lv_iconst (v := 1) hx hb dF_knows_28 (by decide) ?_
        refine lv_goto (tgt := 33) hx hb dF_knows_29 (by decide) ?_
        exact me_z hx hb hr hlk hP hS rfl h dF_knows_33
def wp_F_head_24 (K24 : mI → mJ → Int32 → Int32 → Prop) (R : Int32 → mI → mJ → Prop) (I : mI) (J : mJ) (a1 : Int32) (x2 : Int32) (x3 : Int32) : Prop :=
  ((60 ≤ x3 → R x2 I J) ∧ (¬ (60 ≤ x3) → (vp_in a1 3 ∧ (∃ (S5 : mI), (pF_heaviestChild S5 I J (445 + 3 * a1.toNatClampNeg) x2 ∧ ((¬ ((fF_heaviestChild S5 I J (445 + 3 * a1.toNatClampNeg) x2) = (-1)) → K24 I J (fF_heaviestChild S5 I J (445 + 3 * a1.toNatClampNeg) x2) (x3 + 1)) ∧ ((fF_heaviestChild S5 I J (445 + 3 * a1.toNatClampNeg) x2) = (-1) → R x2 I J)))))))
def wp_F_head (K24 : mI → mJ → Int32 → Int32 → Prop) (R : Int32 → mI → mJ → Prop) (I0 : mI) (J0 : mJ) (a1 : Int32) : Prop :=
  ((¬ ((fF_isNode I0 J0 a1) = 0) → (vp_in a1 3 ∧ K24 I0 J0 (fF_blockOf I0 J0 (I0 (445 + 3 * a1.toNatClampNeg) 3)) 0)) ∧ ((fF_isNode I0 J0 a1) = 0 → R (-1) I0 J0))
theorem P_F_head (S : mI) (I0 : mI) (J0 : mJ) (a1 : Int32)  (hp : pX1 S I0 J0 a1) (K24 : mI → mJ → Int32 → Int32 → Prop) (R : Int32 → mI → mJ → Prop) (c24 : ∀ (I : mI) (J : mJ) (x2 : Int32) (x3 : Int32), wp_F_head_24 K24 R I J a1 x2 x3 → K24 I J x2 x3) (hR : R (fF_head S I0 J0 a1) I0 J0) : wp_F_head K24 R I0 J0 a1 := by
  have hX : XR S I0 J0 := hp
  have hb := hX.1.b
  unfold fF_head rHed at hR
  unfold wp_F_head fF_blockOf
  refine ⟨fun h => ?_, fun h => ?_⟩
  · have h1 : iNd a1 := nn (fun q => h (isN.mpr q))
    rw [if_neg (fun q => q h1)] at hR
    obtain ⟨n, hn, rfl⟩ := iNd_n h1
    rw [cN_nI (by omega)] at hR
    have hN := hX.1.n hn (k := 0) (by omega)
    rw [show 2 * n + 0 = 2 * n from rfl] at hN
    have e : (nI n).toNatClampNeg = n := nI_clamp (by omega)
    have hin : vp_in (nI n) 3 := vp_in_nI (by omega) (by omega)
    rw [e, hX.n3 hn, ck_bl (by omega) (by omega)]
    have key : ∀ m t a, t + m = 60 → a < zBc S → R (nI (zHd S n m a)) I0 J0 → K24 I0 J0 (nI a) (nI t) := by
      intro m
      induction m with
      | zero =>
        intro t a ht ha hr
        have ht : t = 60 := by omega
        subst ht
        apply c24
        unfold wp_F_head_24
        exact ⟨fun _ => hr, fun h => absurd (nI_le (a := 60) (b := 60) (Nat.le_refl _) (by omega)) h⟩
      | succ m ih =>
        intro t a ht ha hr
        apply c24
        unfold wp_F_head_24 fF_heaviestChild
        rw [e, nI_1, iN_n, cN_nI (n := a) (by omega)]
        refine ⟨fun h => absurd h (nI_ge (b := 60) (by omega) (by omega)), fun _ => ⟨hin, S, ⟨hX, ⟨n, hn, rfl⟩, ⟨a, ha, rfl⟩⟩, ?_⟩⟩
        simp only [zHd] at hr
        cases hz : zKid S n a with
        | none =>
          rw [hz] at hr
          exact ⟨fun h => absurd rfl h, fun _ => hr⟩
        | some c =>
          rw [hz] at hr
          have hc := zKf_lt S n a _ c hz
          exact ⟨fun _ => ih (t + 1) c (by omega) hc hr, fun h => absurd h (oI_ne (by omega))⟩
    exact ⟨hin, key 60 0 _ (by omega) hN.2.2.2 hR⟩
  · rw [if_pos (isN.mp h)] at hR
    exact hR
set_option maxHeartbeats 4000000 in
set_option maxRecDepth 100000 in
theorem C_F_head (l : Launch) (D : va_G) (ca : Nat → Nat) (ad : Nat → Nat) (S : mI) (I0 : mI) (J0 : mJ) (a1 : Int32)  (hp : pX1 S I0 J0 a1) : Met l yF_head wF_head ({ frames := 4, cells := 0, slots := 0, locals := 95 } : Room) (va_Pc [.ref (ad 0), .int a1] (mPre D vwCl (xty ca) 459 ad (xmk ca ad) nL I0 J0)) (mQi D vwCl 459 ad (xmk ca ad) (fun r I' J' => r = fF_head S I0 J0 a1 ∧ I' = I0 ∧ J' = J0)) 0 0 (mA 459 ad) := by
  refine Met.ofW (cc := cF_head) (maxL := 5) (ret := (some .int)) (by decide) rfl ?_
  intro p e s m args below meth c s₁ B hml hv
  obtain ⟨rfl, hP, hK, hD0, hN⟩ := hv
  have hx := B.exec
  have hb := B.bytes
  have hr := B.returns
  have htb : ∀ w ∈ wb, w.before _ s = true := fun w h => atoms_spec (ws := wF_head) B.pre w (List.mem_cons_of_mem _ h)
  have hown : s.vm.findClass RF = some m.cls := findClass_of_methodNamed B.named
  have hlk := B.notSynchronized
  have hD := mw_Dm hD0
  have hS : va_S (mA 459 ad) s.heap s.heap [] := va_S.rf
  have hl := lv_entry ([.ref (ad 0), .int a1]) (n := 5) (Nat.le_of_ble_eq_true rfl)
  rw [lg_entry_eq]
  generalize (lg_sl ([.ref (ad 0), .int a1]) ++ List.replicate (5 - (lg_sl ([.ref (ad 0), .int a1])).length) Slot.unset).toArray = ls at hl ⊢
  have hl : lv_has ls 5 [(0, .ref (ad 0)), (1, .int a1)] := hl
  obtain ⟨K24, hK24⟩ : ∃ K : mI → mJ → Int32 → Int32 → Prop, K = (fun I J x2 x3 => ∀ (H : Heap) (locs : List Loc) (ls : Array Slot), va_P D vwCl (mw 459 ad (xmk ca ad) I J) H → va_S (mA 459 ad) s.heap H locs → lv_has ls 5 [(0, .ref (ad 0)), (1, .int a1), (2, .int x2), (3, .int x3)] → W p l e (headSpec wF_head ({ frames := 4, cells := 0, slots := 0, locals := 95 } : Room)).room s m (([.ref (ad 0), .int a1] : List Value).toArray) below meth c H locs 0 0 (MQ below (mQi D vwCl 459 ad (xmk ca ad) (fun r I' J' => r = fF_head S I0 J0 a1 ∧ I' = I0 ∧ J' = J0)) (([.ref (ad 0), .int a1] : List Value).toArray) s 0 0 (mA 459 ad)) (F0 m 24 ls [])) := ⟨_, rfl⟩
  have c24 : ∀ (I : mI) (J : mJ) (x2 : Int32) (x3 : Int32), wp_F_head_24 K24 (fun r I' J' => r = fF_head S I0 J0 a1 ∧ I' = I0 ∧ J' = J0) I J a1 x2 x3 → K24 I J x2 x3 := by
    intro I J x2 x3 h
    rw [hK24]
    intro H locs ls hP hS hl
    unfold wp_F_head_24 at h
    refine lv_iload_n hx hb dF_head_24 rfl (lv_at hl 3 rfl) ?_
    refine lv_bipush (v := 60) hx hb dF_head_25 (by decide) ?_
    refine lv_icmp_ge (tgt := 61) hx hb dF_head_27 (by decide) (fun hc => ?_) (fun hc => ?_)
    · have h := h.1 hc
      refine lv_iload_n hx hb dF_head_61 rfl (lv_at hl 2 rfl) ?_
      exact me_i hx hb hr hlk hP hS h dF_head_62
    · have h := h.2 hc
      refine lv_aload_n hx hb dF_head_30 rfl (lv_at hl 0 rfl) ?_
      refine lv_aload_n hx hb dF_head_31 rfl (lv_at hl 0 rfl) ?_
      refine va_get (D := D) (ci := 5) (v := .ref (ad 444)) (C := RF) (T := TF) (N := 11) hx hb htb inF hown hK hP 0 (mw_at (xk_lt (show xk 0 = 0 from rfl) (by decide)) (xm_F (show xk 0 = 0 from rfl) _ _)) rfl 8 (by decide) (htb _ k1_170) (fun _ h9 => h9) rfl dF_head_32 ?_
      refine lv_iload_n hx hb dF_head_35 rfl (lv_at hl 1 rfl) ?_
      obtain ⟨hn4, h⟩ := h
      refine mr_aald hx hb hK hP 444 4 (xk_lt (show xk 444 = 9 from rfl) (by decide)) (xm_NA (show xk 444 = 9 from rfl) _ _) rfl hn4 dF_head_36 ?_
      refine lv_iload_n hx hb dF_head_37 rfl (lv_at hl 2 rfl) ?_
      obtain ⟨S5, h⟩ := h
      obtain ⟨hp6, h⟩ := h
      refine mc_r (va_runV (As := [.ref (ad (445 + 3 * a1.toNatClampNeg)), .int x2]) (rest := []) ⟨hx, hb, hml, hown, htb⟩ (C_F_heaviestChild l D ca ad S5 I J (445 + 3 * a1.toNatClampNeg) x2 (xk_N hn4) hp6) (cwV 2 htb (gd_v k2_131 k2_133 ks15 k1_1 k2_134) rfl rfl rfl (by decide +kernel) ⟨Nat.le_of_ble_eq_true rfl, Nat.le_of_ble_eq_true rfl⟩) (mPre_V hK hP hD hN rfl (mw_at (xk_lt (show xk 0 = 0 from rfl) (by decide)) (xm_F (show xk 0 = 0 from rfl) _ _))) rfl rfl hl.1 rfl (lv_room (Nat.le_of_ble_eq_true rfl)) dF_head_38 ⟨Nat.le_of_ble_eq_true rfl, Nat.le_of_ble_eq_true rfl⟩) hS (fun H locs hP hS => ?_)
      refine lv_istore (lv' := [(4, .int (fF_heaviestChild S5 I J (445 + 3 * a1.toNatClampNeg) x2)), (0, .ref (ad 0)), (1, .int a1), (2, .int x2), (3, .int x3)]) hx hb dF_head_41 hl (by decide) rfl (fun ls hl => ?_)
      refine lv_iload hx hb dF_head_43 (lv_at hl 0 rfl) ?_
      refine lv_iconst (v := (-1)) hx hb dF_head_45 (by decide) ?_
      refine lv_icmp_ne (tgt := 52) hx hb dF_head_46 (by decide) (fun hc => ?_) (fun hc => ?_)
      · have h := h.1 hc
        refine lv_iload hx hb dF_head_52 (lv_at hl 0 rfl) ?_
        refine lv_istore_n (lv' := [(2, .int (fF_heaviestChild S5 I J (445 + 3 * a1.toNatClampNeg) x2)), (4, .int (fF_heaviestChild S5 I J (445 + 3 * a1.toNatClampNeg) x2)), (0, .ref (ad 0)), (1, .int a1), (3, .int x3)]) hx hb dF_head_54 rfl hl (by decide) rfl (fun ls hl => ?_)
        refine lv_iinc (k := 4) (v := x3 + 1) (lv' := [(3, .int (x3 + 1)), (2, .int (fF_heaviestChild S5 I J (445 + 3 * a1.toNatClampNeg) x2)), (4, .int (fF_heaviestChild S5 I J (445 + 3 * a1.toNatClampNeg) x2)), (0, .ref (ad 0)), (1, .int a1)]) hx hb dF_head_55 hl rfl (by rfl) (by decide) rfl (fun ls hl => ?_)
        refine lv_goto (tgt := 24) hx hb dF_head_58 (by decide) ?_
        rw [hK24] at h
        exact h _ _ _ hP hS (lv_sub hl [3, 4, 1, 0] rfl)
      · have h := h.2 hc
        refine lv_goto (tgt := 61) hx hb dF_head_49 (by decide) ?_
        refine lv_iload_n hx hb dF_head_61 rfl (lv_at hl 3 rfl) ?_
        exact me_i hx hb hr hlk hP hS h dF_head_62
  have h := P_F_head S I0 J0 a1  hp K24 (fun r I' J' => r = fF_head S I0 J0 a1 ∧ I' = I0 ∧ J' = J0) c24 ⟨rfl, rfl, rfl⟩
  unfold wp_F_head at h
  refine lv_iload_n hx hb dF_head_0 rfl (lv_at hl 1 rfl) ?_
  refine mc_r (va_runS (As := [.int a1]) (rest := []) ⟨hx, hb, hml, hown, htb⟩ (C_F_isNode l D ca ad I0 J0 a1) (va_cwS 1 htb (gd_s k2_95 k2_96 k1_1 k2_97) rfl rfl rfl (by decide +kernel) ⟨Nat.le_of_ble_eq_true rfl, Nat.le_of_ble_eq_true rfl⟩) (mPre_S hK hP hD hN) rfl rfl hl.1 rfl (lv_room (Nat.le_of_ble_eq_true rfl)) dF_head_1 ⟨Nat.le_of_ble_eq_true rfl, Nat.le_of_ble_eq_true rfl⟩) hS (fun H locs hP hS => ?_)
  refine lv_if_ne (tgt := 9) hx hb dF_head_4 (by decide) (fun hc => ?_) (fun hc => ?_)
  · have h := h.1 hc
    refine lv_aload_n hx hb dF_head_9 rfl (lv_at hl 0 rfl) ?_
    refine va_get (D := D) (ci := 5) (v := .ref (ad 444)) (C := RF) (T := TF) (N := 11) hx hb htb inF hown hK hP 0 (mw_at (xk_lt (show xk 0 = 0 from rfl) (by decide)) (xm_F (show xk 0 = 0 from rfl) _ _)) rfl 8 (by decide) (htb _ k1_170) (fun _ h9 => h9) rfl dF_head_10 ?_
    refine lv_iload_n hx hb dF_head_13 rfl (lv_at hl 1 rfl) ?_
    obtain ⟨hn2, h⟩ := h
    refine mr_aald hx hb hK hP 444 4 (xk_lt (show xk 444 = 9 from rfl) (by decide)) (xm_NA (show xk 444 = 9 from rfl) _ _) rfl hn2 dF_head_14 ?_
    refine va_get (D := D) (ci := 2) (v := .int (I0 (445 + 3 * a1.toNatClampNeg) 3)) (C := RN) (T := TN) (N := 5) hx hb htb inN hown hK hP (445 + 3 * a1.toNatClampNeg) (mw_at (xk_lt (xk_N hn2) (by decide)) (xm_N (xk_N hn2) _ _)) rfl 3 (by decide) (htb _ k1_144) (fun _ h9 => h9) rfl dF_head_15 ?_
    refine mc_r (va_runS (As := [.int (I0 (445 + 3 * a1.toNatClampNeg) 3)]) (rest := []) ⟨hx, hb, hml, hown, htb⟩ (C_F_blockOf l D ca ad I0 J0 (I0 (445 + 3 * a1.toNatClampNeg) 3)) (va_cwS 1 htb (gd_s k2_72 k2_73 k1_1 k2_74) rfl rfl rfl (by decide +kernel) ⟨Nat.le_of_ble_eq_true rfl, Nat.le_of_ble_eq_true rfl⟩) (mPre_S hK hP hD hN) rfl rfl hl.1 rfl (lv_room (Nat.le_of_ble_eq_true rfl)) dF_head_18 ⟨Nat.le_of_ble_eq_true rfl, Nat.le_of_ble_eq_true rfl⟩) hS (fun H locs hP hS => ?_)
    refine lv_istore_n (lv' := [(2, .int (fF_blockOf I0 J0 (I0 (445 + 3 * a1.toNatClampNeg) 3))), (0, .ref (ad 0)), (1, .int a1)]) hx hb dF_head_21 rfl hl (by decide) rfl (fun ls hl => ?_)
    refine lv_iconst (v := 0) hx hb dF_head_22 (by decide) ?_
    refine lv_istore_n (lv' := [(3, .int 0), (2, .int (fF_blockOf I0 J0 (I0 (445 + 3 * a1.toNatClampNeg) 3))), (0, .ref (ad 0)), (1, .int a1)]) hx hb dF_head_23 rfl hl (by decide) rfl (fun ls hl => ?_)
    rw [hK24] at h
    exact h _ _ _ hP hS (lv_sub hl [2, 3, 1, 0] rfl)
  · have h := h.2 hc
    refine lv_iconst (v := (-1)) hx hb dF_head_7 (by decide) ?_
    exact me_i hx hb hr hlk hP hS h dF_head_8
def wp_F_checkpoint (R : Int32 → mI → mJ → Prop) (I0 : mI) (J0 : mJ) (a1 : Int32) (a2 : Int32) : Prop :=
  ((¬ ((fF_isNode I0 J0 a1) = 0) → ((a2 = 0 → (vp_in a1 3 ∧ R (fF_epochOf I0 J0 (I0 (445 + 3 * a1.toNatClampNeg) 3)) I0 J0)) ∧ (a2 = 1 → (vp_in a1 3 ∧ R (fF_blockOf I0 J0 (I0 (445 + 3 * a1.toNatClampNeg) 3)) I0 J0)) ∧ (a2 = 2 → (vp_in a1 3 ∧ R (fF_epochOf I0 J0 (I0 (445 + 3 * a1.toNatClampNeg) 4)) I0 J0)) ∧ (a2 = 3 → (vp_in a1 3 ∧ R (fF_blockOf I0 J0 (I0 (445 + 3 * a1.toNatClampNeg) 4)) I0 J0)) ∧ (¬ a2 = 0 ∧ ¬ a2 = 1 ∧ ¬ a2 = 2 ∧ ¬ a2 = 3 → R (-1) I0 J0))) ∧ ((fF_isNode I0 J0 a1) = 0 → R (-1) I0 J0))
theorem P_F_checkpoint (S : mI) (I0 : mI) (J0 : mJ) (a1 : Int32) (a2 : Int32)  (hp : pX2 S I0 J0 a1 a2)  (R : Int32 → mI → mJ → Prop)  (hR : R (fF_checkpoint S I0 J0 a1 a2) I0 J0) : wp_F_checkpoint R I0 J0 a1 a2 := by
  have hX : XR S I0 J0 := hp
  have hb := hX.1.b
  unfold fF_checkpoint rCkp at hR
  unfold wp_F_checkpoint fF_blockOf fF_epochOf
  refine ⟨fun h => ?_, fun h => ?_⟩
  · have h1 : iNd a1 := nn (fun q => h (isN.mpr q))
    rw [if_neg (fun q => q h1)] at hR
    obtain ⟨n, hn, rfl⟩ := iNd_n h1
    rw [cN_nI (by omega)] at hR
    have hN := hX.1.n hn (k := 0) (by omega)
    rw [show 2 * n + 0 = 2 * n from rfl] at hN
    have hM := hX.1.n hn (k := 1) (by omega)
    have hin : vp_in (nI n) 3 := vp_in_nI (by omega) (by omega)
    rw [show (nI n).toNatClampNeg = n from nI_clamp (by omega), hX.n3 hn, hX.n4 hn, fEp_ck (by omega) (by omega), fEp_ck (by omega) (by omega), ck_bl (by omega) (by omega), ck_bl (by omega) (by omega), ← hN.1, ← hN.2.2.1, ← hM.1, ← hM.2.2.1]
    refine ⟨fun hw => ⟨hin, ?_⟩, fun hw => ⟨hin, ?_⟩, fun hw => ⟨hin, ?_⟩, fun hw => ⟨hin, ?_⟩, fun hw => ?_⟩
    · subst hw; rw [if_pos rfl] at hR; exact hR
    · subst hw; rw [if_neg (by decide), if_pos rfl] at hR; exact hR
    · subst hw; rw [if_neg (by decide), if_neg (by decide), if_pos rfl] at hR; exact hR
    · subst hw; rw [if_neg (by decide), if_neg (by decide), if_neg (by decide), if_pos rfl] at hR; exact hR
    · rw [if_neg hw.1, if_neg hw.2.1, if_neg hw.2.2.1, if_neg hw.2.2.2] at hR; exact hR
  · rw [if_pos (isN.mp h)] at hR
    exact hR
set_option maxHeartbeats 4000000 in
set_option maxRecDepth 100000 in
theorem C_F_checkpoint (l : Launch) (D : va_G) (ca : Nat → Nat) (ad : Nat → Nat) (S : mI) (I0 : mI) (J0 : mJ) (a1 : Int32) (a2 : Int32)  (hp : pX2 S I0 J0 a1 a2) : Met l yF_checkpoint wF_checkpoint ({ frames := 1, cells := 0, slots := 0, locals := 20 } : Room) (va_Pc [.ref (ad 0), .int a1, .int a2] (mPre D vwCl (xty ca) 459 ad (xmk ca ad) nL I0 J0)) (mQi D vwCl 459 ad (xmk ca ad) (fun r I' J' => r = fF_checkpoint S I0 J0 a1 a2 ∧ I' = I0 ∧ J' = J0)) 0 0 (mA 459 ad) := by
  refine Met.ofW (cc := cF_checkpoint) (maxL := 3) (ret := (some .int)) (by decide) rfl ?_
  intro p e s m args below meth c s₁ B hml hv
  obtain ⟨rfl, hP, hK, hD0, hN⟩ := hv
  have hx := B.exec
  have hb := B.bytes
  have hr := B.returns
  have htb : ∀ w ∈ wb, w.before _ s = true := fun w h => atoms_spec (ws := wF_checkpoint) B.pre w (List.mem_cons_of_mem _ h)
  have hown : s.vm.findClass RF = some m.cls := findClass_of_methodNamed B.named
  have hlk := B.notSynchronized
  have hD := mw_Dm hD0
  have hS : va_S (mA 459 ad) s.heap s.heap [] := va_S.rf
  have hl := lv_entry ([.ref (ad 0), .int a1, .int a2]) (n := 3) (Nat.le_of_ble_eq_true rfl)
  rw [lg_entry_eq]
  generalize (lg_sl ([.ref (ad 0), .int a1, .int a2]) ++ List.replicate (3 - (lg_sl ([.ref (ad 0), .int a1, .int a2])).length) Slot.unset).toArray = ls at hl ⊢
  have hl : lv_has ls 3 [(0, .ref (ad 0)), (1, .int a1), (2, .int a2)] := hl
  have h := P_F_checkpoint S I0 J0 a1 a2  hp  (fun r I' J' => r = fF_checkpoint S I0 J0 a1 a2 ∧ I' = I0 ∧ J' = J0)  ⟨rfl, rfl, rfl⟩
  unfold wp_F_checkpoint at h
  refine lv_iload_n hx hb dF_checkpoint_0 rfl (lv_at hl 1 rfl) ?_
  refine mc_r (va_runS (As := [.int a1]) (rest := []) ⟨hx, hb, hml, hown, htb⟩ (C_F_isNode l D ca ad I0 J0 a1) (va_cwS 1 htb (gd_s k2_95 k2_96 k1_1 k2_97) rfl rfl rfl (by decide +kernel) ⟨Nat.le_of_ble_eq_true rfl, Nat.le_of_ble_eq_true rfl⟩) (mPre_S hK hP hD hN) rfl rfl hl.1 rfl (lv_room (Nat.le_of_ble_eq_true rfl)) dF_checkpoint_1 ⟨Nat.le_of_ble_eq_true rfl, Nat.le_of_ble_eq_true rfl⟩) hS (fun H locs hP hS => ?_)
  refine lv_if_ne (tgt := 9) hx hb dF_checkpoint_4 (by decide) (fun hc => ?_) (fun hc => ?_)
  · have h := h.1 hc
    refine lv_iload_n hx hb dF_checkpoint_9 rfl (lv_at hl 2 rfl) ?_
    by_cases hc0 : a2 = 0
    · have h := h.1 hc0
      refine lv_tableIn (off := 30) (tgt := 40) hx hb dF_checkpoint_10 (by rw [hc0]; decide) (by rw [hc0]; decide) (by rw [hc0]; rfl) (by decide) ?_
      refine lv_aload_n hx hb dF_checkpoint_40 rfl (lv_at hl 0 rfl) ?_
      refine va_get (D := D) (ci := 5) (v := .ref (ad 444)) (C := RF) (T := TF) (N := 11) hx hb htb inF hown hK hP 0 (mw_at (xk_lt (show xk 0 = 0 from rfl) (by decide)) (xm_F (show xk 0 = 0 from rfl) _ _)) rfl 8 (by decide) (htb _ k1_170) (fun _ h9 => h9) rfl dF_checkpoint_41 ?_
      refine lv_iload_n hx hb dF_checkpoint_44 rfl (lv_at hl 1 rfl) ?_
      obtain ⟨hn2, h⟩ := h
      refine mr_aald hx hb hK hP 444 4 (xk_lt (show xk 444 = 9 from rfl) (by decide)) (xm_NA (show xk 444 = 9 from rfl) _ _) rfl hn2 dF_checkpoint_45 ?_
      refine va_get (D := D) (ci := 2) (v := .int (I0 (445 + 3 * a1.toNatClampNeg) 3)) (C := RN) (T := TN) (N := 5) hx hb htb inN hown hK hP (445 + 3 * a1.toNatClampNeg) (mw_at (xk_lt (xk_N hn2) (by decide)) (xm_N (xk_N hn2) _ _)) rfl 3 (by decide) (htb _ k1_144) (fun _ h9 => h9) rfl dF_checkpoint_46 ?_
      refine mc_r (va_runS (As := [.int (I0 (445 + 3 * a1.toNatClampNeg) 3)]) (rest := []) ⟨hx, hb, hml, hown, htb⟩ (C_F_epochOf l D ca ad I0 J0 (I0 (445 + 3 * a1.toNatClampNeg) 3)) (va_cwS 1 htb (gd_s k1_219 k1_220 k1_1 k1_221) rfl rfl rfl (by decide +kernel) ⟨Nat.le_of_ble_eq_true rfl, Nat.le_of_ble_eq_true rfl⟩) (mPre_S hK hP hD hN) rfl rfl hl.1 rfl (lv_room (Nat.le_of_ble_eq_true rfl)) dF_checkpoint_49 ⟨Nat.le_of_ble_eq_true rfl, Nat.le_of_ble_eq_true rfl⟩) hS (fun H locs hP hS => ?_)
      exact me_i hx hb hr hlk hP hS h dF_checkpoint_52
    by_cases hc1 : a2 = 1
    · have h := h.2.1 hc1
      refine lv_tableIn (off := 43) (tgt := 53) hx hb dF_checkpoint_10 (by rw [hc1]; decide) (by rw [hc1]; decide) (by rw [hc1]; rfl) (by decide) ?_
      refine lv_aload_n hx hb dF_checkpoint_53 rfl (lv_at hl 0 rfl) ?_
      refine va_get (D := D) (ci := 5) (v := .ref (ad 444)) (C := RF) (T := TF) (N := 11) hx hb htb inF hown hK hP 0 (mw_at (xk_lt (show xk 0 = 0 from rfl) (by decide)) (xm_F (show xk 0 = 0 from rfl) _ _)) rfl 8 (by decide) (htb _ k1_170) (fun _ h9 => h9) rfl dF_checkpoint_54 ?_
      refine lv_iload_n hx hb dF_checkpoint_57 rfl (lv_at hl 1 rfl) ?_
      obtain ⟨hn4, h⟩ := h
      refine mr_aald hx hb hK hP 444 4 (xk_lt (show xk 444 = 9 from rfl) (by decide)) (xm_NA (show xk 444 = 9 from rfl) _ _) rfl hn4 dF_checkpoint_58 ?_
      refine va_get (D := D) (ci := 2) (v := .int (I0 (445 + 3 * a1.toNatClampNeg) 3)) (C := RN) (T := TN) (N := 5) hx hb htb inN hown hK hP (445 + 3 * a1.toNatClampNeg) (mw_at (xk_lt (xk_N hn4) (by decide)) (xm_N (xk_N hn4) _ _)) rfl 3 (by decide) (htb _ k1_144) (fun _ h9 => h9) rfl dF_checkpoint_59 ?_
      refine mc_r (va_runS (As := [.int (I0 (445 + 3 * a1.toNatClampNeg) 3)]) (rest := []) ⟨hx, hb, hml, hown, htb⟩ (C_F_blockOf l D ca ad I0 J0 (I0 (445 + 3 * a1.toNatClampNeg) 3)) (va_cwS 1 htb (gd_s k2_72 k2_73 k1_1 k2_74) rfl rfl rfl (by decide +kernel) ⟨Nat.le_of_ble_eq_true rfl, Nat.le_of_ble_eq_true rfl⟩) (mPre_S hK hP hD hN) rfl rfl hl.1 rfl (lv_room (Nat.le_of_ble_eq_true rfl)) dF_checkpoint_62 ⟨Nat.le_of_ble_eq_true rfl, Nat.le_of_ble_eq_true rfl⟩) hS (fun H locs hP hS => ?_)
      exact me_i hx hb hr hlk hP hS h dF_checkpoint_65
    by_cases hc2 : a2 = 2
    · have h := h.2.2.1 hc2
      refine lv_tableIn (off := 56) (tgt := 66) hx hb dF_checkpoint_10 (by rw [hc2]; decide) (by rw [hc2]; decide) (by rw [hc2]; rfl) (by decide) ?_
      refine lv_aload_n hx hb dF_checkpoint_66 rfl (lv_at hl 0 rfl) ?_
      refine va_get (D := D) (ci := 5) (v := .ref (ad 444)) (C := RF) (T := TF) (N := 11) hx hb htb inF hown hK hP 0 (mw_at (xk_lt (show xk 0 = 0 from rfl) (by decide)) (xm_F (show xk 0 = 0 from rfl) _ _)) rfl 8 (by decide) (htb _ k1_170) (fun _ h9 => h9) rfl dF_checkpoint_67 ?_
      refine lv_iload_n hx hb dF_checkpoint_70 rfl (lv_at hl 1 rfl) ?_
      obtain ⟨hn6, h⟩ := h
      refine mr_aald hx hb hK hP 444 4 (xk_lt (show xk 444 = 9 from rfl) (by decide)) (xm_NA (show xk 444 = 9 from rfl) _ _) rfl hn6 dF_checkpoint_71 ?_
      refine va_get (D := D) (ci := 2) (v := .int (I0 (445 + 3 * a1.toNatClampNeg) 4)) (C := RN) (T := TN) (N := 5) hx hb htb inN hown hK hP (445 + 3 * a1.toNatClampNeg) (mw_at (xk_lt (xk_N hn6) (by decide)) (xm_N (xk_N hn6) _ _)) rfl 4 (by decide) (htb _ k1_145) (fun _ h9 => h9) rfl dF_checkpoint_72 ?_
      refine mc_r (va_runS (As := [.int (I0 (445 + 3 * a1.toNatClampNeg) 4)]) (rest := []) ⟨hx, hb, hml, hown, htb⟩ (C_F_epochOf l D ca ad I0 J0 (I0 (445 + 3 * a1.toNatClampNeg) 4)) (va_cwS 1 htb (gd_s k1_219 k1_220 k1_1 k1_221) rfl rfl rfl (by decide +kernel) ⟨Nat.le_of_ble_eq_true rfl, Nat.le_of_ble_eq_true rfl⟩) (mPre_S hK hP hD hN) rfl rfl hl.1 rfl (lv_room (Nat.le_of_ble_eq_true rfl)) dF_checkpoint_75 ⟨Nat.le_of_ble_eq_true rfl, Nat.le_of_ble_eq_true rfl⟩) hS (fun H locs hP hS => ?_)
      exact me_i hx hb hr hlk hP hS h dF_checkpoint_78
    by_cases hc3 : a2 = 3
    · have h := h.2.2.2.1 hc3
      refine lv_tableIn (off := 69) (tgt := 79) hx hb dF_checkpoint_10 (by rw [hc3]; decide) (by rw [hc3]; decide) (by rw [hc3]; rfl) (by decide) ?_
      refine lv_aload_n hx hb dF_checkpoint_79 rfl (lv_at hl 0 rfl) ?_
      refine va_get (D := D) (ci := 5) (v := .ref (ad 444)) (C := RF) (T := TF) (N := 11) hx hb htb inF hown hK hP 0 (mw_at (xk_lt (show xk 0 = 0 from rfl) (by decide)) (xm_F (show xk 0 = 0 from rfl) _ _)) rfl 8 (by decide) (htb _ k1_170) (fun _ h9 => h9) rfl dF_checkpoint_80 ?_
      refine lv_iload_n hx hb dF_checkpoint_83 rfl (lv_at hl 1 rfl) ?_
      obtain ⟨hn8, h⟩ := h
      refine mr_aald hx hb hK hP 444 4 (xk_lt (show xk 444 = 9 from rfl) (by decide)) (xm_NA (show xk 444 = 9 from rfl) _ _) rfl hn8 dF_checkpoint_84 ?_
      refine va_get (D := D) (ci := 2) (v := .int (I0 (445 + 3 * a1.toNatClampNeg) 4)) (C := RN) (T := TN) (N := 5) hx hb htb inN hown hK hP (445 + 3 * a1.toNatClampNeg) (mw_at (xk_lt (xk_N hn8) (by decide)) (xm_N (xk_N hn8) _ _)) rfl 4 (by decide) (htb _ k1_145) (fun _ h9 => h9) rfl dF_checkpoint_85 ?_
      refine mc_r (va_runS (As := [.int (I0 (445 + 3 * a1.toNatClampNeg) 4)]) (rest := []) ⟨hx, hb, hml, hown, htb⟩ (C_F_blockOf l D ca ad I0 J0 (I0 (445 + 3 * a1.toNatClampNeg) 4)) (va_cwS 1 htb (gd_s k2_72 k2_73 k1_1 k2_74) rfl rfl rfl (by decide +kernel) ⟨Nat.le_of_ble_eq_true rfl, Nat.le_of_ble_eq_true rfl⟩) (mPre_S hK hP hD hN) rfl rfl hl.1 rfl (lv_room (Nat.le_of_ble_eq_true rfl)) dF_checkpoint_88 ⟨Nat.le_of_ble_eq_true rfl, Nat.le_of_ble_eq_true rfl⟩) hS (fun H locs hP hS => ?_)
      exact me_i hx hb hr hlk hP hS h dF_checkpoint_91
    have h := h.2.2.2.2 ⟨hc0, hc1, hc2, hc3⟩
    refine lv_tableOut (tgt := 92) hx hb dF_checkpoint_10 (sw_out (by have q0 := sw_ne (k := 0) (n := 0) rfl hc0; have q1 := sw_ne (k := 1) (n := 1) rfl hc1; have q2 := sw_ne (k := 2) (n := 2) rfl hc2; have q3 := sw_ne (k := 3) (n := 3) rfl hc3; omega)) (by decide) ?_
    refine lv_iconst (v := (-1)) hx hb dF_checkpoint_92 (by decide) ?_
    exact me_i hx hb hr hlk hP hS h dF_checkpoint_93
  · have h := h.2 hc
    refine lv_iconst (v := (-1)) hx hb dF_checkpoint_7 (by decide) ?_
    exact me_i hx hb hr hlk hP hS h dF_checkpoint_8
def wp_F_conflict (R : Int32 → mI → mJ → Prop) (I0 : mI) (J0 : mJ) (a1 : Int32) (a2 : Int32) : Prop :=
  (((fF_isNode I0 J0 a1) = 0 → R 0 I0 J0) ∧ (¬ ((fF_isNode I0 J0 a1) = 0) → ((¬ ((fF_isNode I0 J0 a2) = 0) → (vp_in a1 3 ∧ (vp_in a2 3 ∧ (∃ (S7 : mI), (pF_descends S7 I0 J0 (fF_blockOf I0 J0 (I0 (445 + 3 * a1.toNatClampNeg) 4)) (fF_blockOf I0 J0 (I0 (445 + 3 * a2.toNatClampNeg) 4)) ∧ ((¬ ((fF_descends S7 I0 J0 (fF_blockOf I0 J0 (I0 (445 + 3 * a1.toNatClampNeg) 4)) (fF_blockOf I0 J0 (I0 (445 + 3 * a2.toNatClampNeg) 4))) = 0) → R 0 I0 J0) ∧ ((fF_descends S7 I0 J0 (fF_blockOf I0 J0 (I0 (445 + 3 * a1.toNatClampNeg) 4)) (fF_blockOf I0 J0 (I0 (445 + 3 * a2.toNatClampNeg) 4))) = 0 → (∃ (S9 : mI), (pF_descends S9 I0 J0 (fF_blockOf I0 J0 (I0 (445 + 3 * a2.toNatClampNeg) 4)) (fF_blockOf I0 J0 (I0 (445 + 3 * a1.toNatClampNeg) 4)) ∧ ((¬ ((fF_descends S9 I0 J0 (fF_blockOf I0 J0 (I0 (445 + 3 * a2.toNatClampNeg) 4)) (fF_blockOf I0 J0 (I0 (445 + 3 * a1.toNatClampNeg) 4))) = 0) → R 0 I0 J0) ∧ ((fF_descends S9 I0 J0 (fF_blockOf I0 J0 (I0 (445 + 3 * a2.toNatClampNeg) 4)) (fF_blockOf I0 J0 (I0 (445 + 3 * a1.toNatClampNeg) 4))) = 0 → R 1 I0 J0))))))))))) ∧ ((fF_isNode I0 J0 a2) = 0 → R 0 I0 J0))))
theorem P_F_conflict (S : mI) (I0 : mI) (J0 : mJ) (a1 : Int32) (a2 : Int32)  (hp : pX2 S I0 J0 a1 a2)  (R : Int32 → mI → mJ → Prop)  (hR : R (fF_conflict S I0 J0 a1 a2) I0 J0) : wp_F_conflict R I0 J0 a1 a2 := by
  have hX : XR S I0 J0 := hp
  have hb := hX.1.b
  unfold fF_conflict rCon at hR
  unfold wp_F_conflict fF_blockOf
  refine ⟨fun h => ?_, fun h => ⟨fun h2 => ?_, fun h2 => ?_⟩⟩
  · rw [if_pos (Or.inl (isN.mp h))] at hR
    exact hR
  · have h1 : iNd a1 := nn (fun q => h (isN.mpr q))
    have h3 : iNd a2 := nn (fun q => h2 (isN.mpr q))
    rw [if_neg (fun q => q.elim (fun z => z h1) (fun z => z h3))] at hR
    obtain ⟨n, hn, rfl⟩ := iNd_n h1
    obtain ⟨v, hv, rfl⟩ := iNd_n h3
    rw [cN_nI (by omega), cN_nI (by omega)] at hR
    have hN := hX.1.n hn (k := 1) (by omega)
    have hM := hX.1.n hv (k := 1) (by omega)
    rw [show (nI n).toNatClampNeg = n from nI_clamp (by omega), show (nI v).toNatClampNeg = v from nI_clamp (by omega), hX.n4 hn, hX.n4 hv, ck_bl (by omega) (by omega), ck_bl (by omega) (by omega)]
    unfold fF_descends
    rw [cN_nI (n := zNb S (2 * n + 1)) (by omega), cN_nI (n := zNb S (2 * v + 1)) (by omega)]
    refine ⟨vp_in_nI (by omega) (by omega), vp_in_nI (by omega) (by omega), S, ⟨hX, ⟨_, hN.2.2.2, rfl⟩, ⟨_, by omega, rfl⟩⟩, fun h => ?_, fun h => ⟨S, ⟨hX, ⟨_, hM.2.2.2, rfl⟩, ⟨_, by omega, rfl⟩⟩, fun h2 => ?_, fun h2 => ?_⟩⟩
    · rw [bz_n0.mp h] at hR
      exact hR
    · rw [bz_n0.mp h2] at hR
      simp at hR
      exact hR
    · rw [bz_0.mp h, bz_0.mp h2] at hR
      exact hR
  · rw [if_pos (Or.inr (isN.mp h2))] at hR
    exact hR
set_option maxHeartbeats 4000000 in
set_option maxRecDepth 100000 in
theorem C_F_conflict (l : Launch) (D : va_G) (ca : Nat → Nat) (ad : Nat → Nat) (S : mI) (I0 : mI) (J0 : mJ) (a1 : Int32) (a2 : Int32)  (hp : pX2 S I0 J0 a1 a2) : Met l yF_conflict wF_conflict ({ frames := 1, cells := 0, slots := 0, locals := 22 } : Room) (va_Pc [.ref (ad 0), .int a1, .int a2] (mPre D vwCl (xty ca) 459 ad (xmk ca ad) nL I0 J0)) (mQi D vwCl 459 ad (xmk ca ad) (fun r I' J' => r = fF_conflict S I0 J0 a1 a2 ∧ I' = I0 ∧ J' = J0)) 0 0 (mA 459 ad) := by
  refine Met.ofW (cc := cF_conflict) (maxL := 5) (ret := (some .boolean)) (by decide) rfl ?_
  intro p e s m args below meth c s₁ B hml hv
  obtain ⟨rfl, hP, hK, hD0, hN⟩ := hv
  have hx := B.exec
  have hb := B.bytes
  have hr := B.returns
  have htb : ∀ w ∈ wb, w.before _ s = true := fun w h => atoms_spec (ws := wF_conflict) B.pre w (List.mem_cons_of_mem _ h)
  have hown : s.vm.findClass RF = some m.cls := findClass_of_methodNamed B.named
  have hlk := B.notSynchronized
  have hD := mw_Dm hD0
  have hS : va_S (mA 459 ad) s.heap s.heap [] := va_S.rf
  have hl := lv_entry ([.ref (ad 0), .int a1, .int a2]) (n := 5) (Nat.le_of_ble_eq_true rfl)
  rw [lg_entry_eq]
  generalize (lg_sl ([.ref (ad 0), .int a1, .int a2]) ++ List.replicate (5 - (lg_sl ([.ref (ad 0), .int a1, .int a2])).length) Slot.unset).toArray = ls at hl ⊢
  have hl : lv_has ls 5 [(0, .ref (ad 0)), (1, .int a1), (2, .int a2)] := hl
  have h := P_F_conflict S I0 J0 a1 a2  hp  (fun r I' J' => r = fF_conflict S I0 J0 a1 a2 ∧ I' = I0 ∧ J' = J0)  ⟨rfl, rfl, rfl⟩
  unfold wp_F_conflict at h
  refine lv_iload_n hx hb dF_conflict_0 rfl (lv_at hl 1 rfl) ?_
  refine mc_r (va_runS (As := [.int a1]) (rest := []) ⟨hx, hb, hml, hown, htb⟩ (C_F_isNode l D ca ad I0 J0 a1) (va_cwS 1 htb (gd_s k2_95 k2_96 k1_1 k2_97) rfl rfl rfl (by decide +kernel) ⟨Nat.le_of_ble_eq_true rfl, Nat.le_of_ble_eq_true rfl⟩) (mPre_S hK hP hD hN) rfl rfl hl.1 rfl (lv_room (Nat.le_of_ble_eq_true rfl)) dF_conflict_1 ⟨Nat.le_of_ble_eq_true rfl, Nat.le_of_ble_eq_true rfl⟩) hS (fun H locs hP hS => ?_)
  refine lv_if_eq (tgt := 14) hx hb dF_conflict_4 (by decide) (fun hc => ?_) (fun hc => ?_)
  · have h := h.1 hc
    refine lv_iconst (v := 0) hx hb dF_conflict_14 (by decide) ?_
    exact me_z hx hb hr hlk hP hS rfl h dF_conflict_15
  · have h := h.2 hc
    refine lv_iload_n hx hb dF_conflict_7 rfl (lv_at hl 2 rfl) ?_
    refine mc_r (va_runS (As := [.int a2]) (rest := []) ⟨hx, hb, hml, hown, htb⟩ (C_F_isNode l D ca ad I0 J0 a2) (va_cwS 1 htb (gd_s k2_95 k2_96 k1_1 k2_97) rfl rfl rfl (by decide +kernel) ⟨Nat.le_of_ble_eq_true rfl, Nat.le_of_ble_eq_true rfl⟩) (mPre_S hK hP hD hN) rfl rfl hl.1 rfl (lv_room (Nat.le_of_ble_eq_true rfl)) dF_conflict_8 ⟨Nat.le_of_ble_eq_true rfl, Nat.le_of_ble_eq_true rfl⟩) hS (fun H locs hP hS => ?_)
    refine lv_if_ne (tgt := 16) hx hb dF_conflict_11 (by decide) (fun hc => ?_) (fun hc => ?_)
    · have h := h.1 hc
      refine lv_aload_n hx hb dF_conflict_16 rfl (lv_at hl 0 rfl) ?_
      refine va_get (D := D) (ci := 5) (v := .ref (ad 444)) (C := RF) (T := TF) (N := 11) hx hb htb inF hown hK hP 0 (mw_at (xk_lt (show xk 0 = 0 from rfl) (by decide)) (xm_F (show xk 0 = 0 from rfl) _ _)) rfl 8 (by decide) (htb _ k1_170) (fun _ h9 => h9) rfl dF_conflict_17 ?_
      refine lv_iload_n hx hb dF_conflict_20 rfl (lv_at hl 1 rfl) ?_
      obtain ⟨hn3, h⟩ := h
      refine mr_aald hx hb hK hP 444 4 (xk_lt (show xk 444 = 9 from rfl) (by decide)) (xm_NA (show xk 444 = 9 from rfl) _ _) rfl hn3 dF_conflict_21 ?_
      refine va_get (D := D) (ci := 2) (v := .int (I0 (445 + 3 * a1.toNatClampNeg) 4)) (C := RN) (T := TN) (N := 5) hx hb htb inN hown hK hP (445 + 3 * a1.toNatClampNeg) (mw_at (xk_lt (xk_N hn3) (by decide)) (xm_N (xk_N hn3) _ _)) rfl 4 (by decide) (htb _ k1_145) (fun _ h9 => h9) rfl dF_conflict_22 ?_
      refine mc_r (va_runS (As := [.int (I0 (445 + 3 * a1.toNatClampNeg) 4)]) (rest := []) ⟨hx, hb, hml, hown, htb⟩ (C_F_blockOf l D ca ad I0 J0 (I0 (445 + 3 * a1.toNatClampNeg) 4)) (va_cwS 1 htb (gd_s k2_72 k2_73 k1_1 k2_74) rfl rfl rfl (by decide +kernel) ⟨Nat.le_of_ble_eq_true rfl, Nat.le_of_ble_eq_true rfl⟩) (mPre_S hK hP hD hN) rfl rfl hl.1 rfl (lv_room (Nat.le_of_ble_eq_true rfl)) dF_conflict_25 ⟨Nat.le_of_ble_eq_true rfl, Nat.le_of_ble_eq_true rfl⟩) hS (fun H locs hP hS => ?_)
      refine lv_istore_n (lv' := [(3, .int (fF_blockOf I0 J0 (I0 (445 + 3 * a1.toNatClampNeg) 4))), (0, .ref (ad 0)), (1, .int a1), (2, .int a2)]) hx hb dF_conflict_28 rfl hl (by decide) rfl (fun ls hl => ?_)
      refine lv_aload_n hx hb dF_conflict_29 rfl (lv_at hl 1 rfl) ?_
      refine va_get (D := D) (ci := 5) (v := .ref (ad 444)) (C := RF) (T := TF) (N := 11) hx hb htb inF hown hK hP 0 (mw_at (xk_lt (show xk 0 = 0 from rfl) (by decide)) (xm_F (show xk 0 = 0 from rfl) _ _)) rfl 8 (by decide) (htb _ k1_170) (fun _ h9 => h9) rfl dF_conflict_30 ?_
      refine lv_iload_n hx hb dF_conflict_33 rfl (lv_at hl 3 rfl) ?_
      obtain ⟨hn5, h⟩ := h
      refine mr_aald hx hb hK hP 444 4 (xk_lt (show xk 444 = 9 from rfl) (by decide)) (xm_NA (show xk 444 = 9 from rfl) _ _) rfl hn5 dF_conflict_34 ?_
      refine va_get (D := D) (ci := 2) (v := .int (I0 (445 + 3 * a2.toNatClampNeg) 4)) (C := RN) (T := TN) (N := 5) hx hb htb inN hown hK hP (445 + 3 * a2.toNatClampNeg) (mw_at (xk_lt (xk_N hn5) (by decide)) (xm_N (xk_N hn5) _ _)) rfl 4 (by decide) (htb _ k1_145) (fun _ h9 => h9) rfl dF_conflict_35 ?_
      refine mc_r (va_runS (As := [.int (I0 (445 + 3 * a2.toNatClampNeg) 4)]) (rest := []) ⟨hx, hb, hml, hown, htb⟩ (C_F_blockOf l D ca ad I0 J0 (I0 (445 + 3 * a2.toNatClampNeg) 4)) (va_cwS 1 htb (gd_s k2_72 k2_73 k1_1 k2_74) rfl rfl rfl (by decide +kernel) ⟨Nat.le_of_ble_eq_true rfl, Nat.le_of_ble_eq_true rfl⟩) (mPre_S hK hP hD hN) rfl rfl hl.1 rfl (lv_room (Nat.le_of_ble_eq_true rfl)) dF_conflict_38 ⟨Nat.le_of_ble_eq_true rfl, Nat.le_of_ble_eq_true rfl⟩) hS (fun H locs hP hS => ?_)
      refine lv_istore (lv' := [(4, .int (fF_blockOf I0 J0 (I0 (445 + 3 * a2.toNatClampNeg) 4))), (3, .int (fF_blockOf I0 J0 (I0 (445 + 3 * a1.toNatClampNeg) 4))), (0, .ref (ad 0)), (1, .int a1), (2, .int a2)]) hx hb dF_conflict_41 hl (by decide) rfl (fun ls hl => ?_)
      refine lv_aload_n hx hb dF_conflict_43 rfl (lv_at hl 2 rfl) ?_
      refine lv_iload_n hx hb dF_conflict_44 rfl (lv_at hl 1 rfl) ?_
      refine lv_iload hx hb dF_conflict_45 (lv_at hl 0 rfl) ?_
      obtain ⟨S7, h⟩ := h
      obtain ⟨hp8, h⟩ := h
      refine mc_r (va_runV (As := [.int (fF_blockOf I0 J0 (I0 (445 + 3 * a1.toNatClampNeg) 4)), .int (fF_blockOf I0 J0 (I0 (445 + 3 * a2.toNatClampNeg) 4))]) (rest := []) ⟨hx, hb, hml, hown, htb⟩ (C_F_descends l D ca ad S7 I0 J0 (fF_blockOf I0 J0 (I0 (445 + 3 * a1.toNatClampNeg) 4)) (fF_blockOf I0 J0 (I0 (445 + 3 * a2.toNatClampNeg) 4)) hp8) (cwV 2 htb (gd_v k1_212 k1_214 ks3 k1_1 k1_215) rfl rfl rfl (by decide +kernel) ⟨Nat.le_of_ble_eq_true rfl, Nat.le_of_ble_eq_true rfl⟩) (mPre_V hK hP hD hN rfl (mw_at (xk_lt (show xk 0 = 0 from rfl) (by decide)) (xm_F (show xk 0 = 0 from rfl) _ _))) rfl rfl hl.1 rfl (lv_room (Nat.le_of_ble_eq_true rfl)) dF_conflict_47 ⟨Nat.le_of_ble_eq_true rfl, Nat.le_of_ble_eq_true rfl⟩) hS (fun H locs hP hS => ?_)
      refine lv_if_ne (tgt := 67) hx hb dF_conflict_50 (by decide) (fun hc => ?_) (fun hc => ?_)
      · have h := h.1 hc
        refine lv_iconst (v := 0) hx hb dF_conflict_67 (by decide) ?_
        exact me_z hx hb hr hlk hP hS rfl h dF_conflict_68
      · have h := h.2 hc
        refine lv_aload_n hx hb dF_conflict_53 rfl (lv_at hl 2 rfl) ?_
        refine lv_iload hx hb dF_conflict_54 (lv_at hl 0 rfl) ?_
        refine lv_iload_n hx hb dF_conflict_56 rfl (lv_at hl 1 rfl) ?_
        obtain ⟨S9, h⟩ := h
        obtain ⟨hp10, h⟩ := h
        refine mc_r (va_runV (As := [.int (fF_blockOf I0 J0 (I0 (445 + 3 * a2.toNatClampNeg) 4)), .int (fF_blockOf I0 J0 (I0 (445 + 3 * a1.toNatClampNeg) 4))]) (rest := []) ⟨hx, hb, hml, hown, htb⟩ (C_F_descends l D ca ad S9 I0 J0 (fF_blockOf I0 J0 (I0 (445 + 3 * a2.toNatClampNeg) 4)) (fF_blockOf I0 J0 (I0 (445 + 3 * a1.toNatClampNeg) 4)) hp10) (cwV 2 htb (gd_v k1_212 k1_214 ks3 k1_1 k1_215) rfl rfl rfl (by decide +kernel) ⟨Nat.le_of_ble_eq_true rfl, Nat.le_of_ble_eq_true rfl⟩) (mPre_V hK hP hD hN rfl (mw_at (xk_lt (show xk 0 = 0 from rfl) (by decide)) (xm_F (show xk 0 = 0 from rfl) _ _))) rfl rfl hl.1 rfl (lv_room (Nat.le_of_ble_eq_true rfl)) dF_conflict_57 ⟨Nat.le_of_ble_eq_true rfl, Nat.le_of_ble_eq_true rfl⟩) hS (fun H locs hP hS => ?_)
        refine lv_if_ne (tgt := 67) hx hb dF_conflict_60 (by decide) (fun hc => ?_) (fun hc => ?_)
        · have h := h.1 hc
          refine lv_iconst (v := 0) hx hb dF_conflict_67 (by decide) ?_
          exact me_z hx hb hr hlk hP hS rfl h dF_conflict_68
        · have h := h.2 hc
          refine lv_iconst (v := 1) hx hb dF_conflict_63 (by decide) ?_
          refine lv_goto (tgt := 68) hx hb dF_conflict_64 (by decide) ?_
          exact me_z hx hb hr hlk hP hS rfl h dF_conflict_68
    · have h := h.2 hc
      refine lv_iconst (v := 0) hx hb dF_conflict_14 (by decide) ?_
      exact me_z hx hb hr hlk hP hS rfl h dF_conflict_15
def wp_F_guilty_5 (K5 : mI → mJ → Int32 → Int32 → Prop) (R : Int32 → mI → mJ → Prop) (I : mI) (J : mJ) (a1 : Int32) (a2 : Int32) (x3 : Int32) (x4 : Int32) : Prop :=
  (((I 0 0) ≤ x4 → (∃ (S1 : mI), (pF_weightOf S1 I J x3 ∧ R (fF_weightOf S1 I J x3) I J))) ∧ (¬ ((I 0 0) ≤ x4) → (∃ (S3 : mI), (pF_lowestClash S3 I J x4 a1 a2 ∧ (((fF_lowestClash S3 I J x4 a1 a2) = (-1) → K5 I J x3 (x4 + 1)) ∧ (¬ ((fF_lowestClash S3 I J x4 a1 a2) = (-1)) → K5 I J (x3 ||| ((1 : Int32) <<< (x4 &&& 31))) (x4 + 1)))))))
def wp_F_guilty (K5 : mI → mJ → Int32 → Int32 → Prop) (R : Int32 → mI → mJ → Prop) (I0 : mI) (J0 : mJ) (a1 : Int32) (a2 : Int32) : Prop :=
  K5 I0 J0 0 0
theorem P_F_guilty (S : mI) (I0 : mI) (J0 : mJ) (a1 : Int32) (a2 : Int32)  (hp : pX2 S I0 J0 a1 a2) (K5 : mI → mJ → Int32 → Int32 → Prop) (R : Int32 → mI → mJ → Prop) (c5 : ∀ (I : mI) (J : mJ) (x3 : Int32) (x4 : Int32), wp_F_guilty_5 K5 R I J a1 a2 x3 x4 → K5 I J x3 x4) (hR : R (fF_guilty S I0 J0 a1 a2) I0 J0) : wp_F_guilty K5 R I0 J0 a1 a2 := by
  have hX : XR S I0 J0 := hp
  have hb := hX.1.b
  unfold fF_guilty rGui at hR
  generalize hge : (fun v => (zPo (zQ S (nI v) a1 (!decide (a2 = 0))) (zVc S) 0).isSome) = g at hR
  have key : ∀ m v x, v + m = zNv S → (∀ w, w < 7 → bt x w = (decide (w < v) && g w)) → K5 I0 J0 x (nI v) := by
    intro m
    induction m with
    | zero =>
      intro v x hv hx
      have hv : v = zNv S := by omega
      subst hv
      apply c5
      unfold wp_F_guilty_5
      rw [hX.nv]
      refine ⟨fun _ => ⟨S, hX, ?_⟩, fun h => absurd (nI_le (Nat.le_refl _) (by omega)) h⟩
      unfold fF_weightOf
      rw [zSum_congr S (f := bt x) (g := g) (zNv S) (fun w hw => by rw [hx w (by omega), decide_eq_true hw, Bool.true_and])]
      exact hR
    | succ m ih =>
      intro v x hv hx
      have hgv : g v = (zPo (zQ S (nI v) a1 (!decide (a2 = 0))) (zVc S) 0).isSome := by rw [← hge]
      apply c5
      unfold wp_F_guilty_5 fF_lowestClash
      rw [hX.nv, nI_1]
      refine ⟨fun h => absurd h (nI_ge (by omega) (by omega)), fun _ => ⟨S, hX, ?_⟩⟩
      cases hz : zPo (zQ S (nI v) a1 (!decide (a2 = 0))) (zVc S) 0 with
      | none =>
        rw [hz] at hgv
        refine ⟨fun _ => ih (v + 1) x (by omega) (fun w hw => ?_), fun h => absurd rfl h⟩
        rw [hx w hw]
        by_cases h1 : w < v
        · rw [decide_eq_true h1, decide_eq_true (by omega)]
        · by_cases h2 : w = v
          · subst h2
            rw [hgv]
            simp
          · rw [decide_eq_false h1, decide_eq_false (by omega)]
      | some i =>
        rw [hz] at hgv
        have hi := zPo_lt _ _ _ hz
        refine ⟨fun h => absurd h (oI_ne (by omega)), fun _ => ih (v + 1) _ (by omega) (fun w hw => ?_)⟩
        rw [bi_set x (by omega) (by omega), hx w hw]
        by_cases h2 : v = w
        · subst h2
          rw [hgv]
          simp
        · rw [decide_eq_false h2, Bool.or_false]
          by_cases h1 : w < v
          · rw [decide_eq_true h1, decide_eq_true (by omega)]
          · rw [decide_eq_false h1, decide_eq_false (by omega)]
  exact key (zNv S) 0 0 (by omega) (fun w _ => by rw [b_0, decide_eq_false (by omega)]; rfl)
set_option maxHeartbeats 4000000 in
set_option maxRecDepth 100000 in
theorem C_F_guilty (l : Launch) (D : va_G) (ca : Nat → Nat) (ad : Nat → Nat) (S : mI) (I0 : mI) (J0 : mJ) (a1 : Int32) (a2 : Int32)  (hp : pX2 S I0 J0 a1 a2) : Met l yF_guilty wF_guilty ({ frames := 4, cells := 0, slots := 0, locals := 90 } : Room) (va_Pc [.ref (ad 0), .int a1, .int a2] (mPre D vwCl (xty ca) 459 ad (xmk ca ad) nL I0 J0)) (mQi D vwCl 459 ad (xmk ca ad) (fun r I' J' => r = fF_guilty S I0 J0 a1 a2 ∧ I' = I0 ∧ J' = J0)) 0 0 (mA 459 ad) := by
  refine Met.ofW (cc := cF_guilty) (maxL := 5) (ret := (some .int)) (by decide) rfl ?_
  intro p e s m args below meth c s₁ B hml hv
  obtain ⟨rfl, hP, hK, hD0, hN⟩ := hv
  have hx := B.exec
  have hb := B.bytes
  have hr := B.returns
  have htb : ∀ w ∈ wb, w.before _ s = true := fun w h => atoms_spec (ws := wF_guilty) B.pre w (List.mem_cons_of_mem _ h)
  have hown : s.vm.findClass RF = some m.cls := findClass_of_methodNamed B.named
  have hlk := B.notSynchronized
  have hD := mw_Dm hD0
  have hS : va_S (mA 459 ad) s.heap s.heap [] := va_S.rf
  have hl := lv_entry ([.ref (ad 0), .int a1, .int a2]) (n := 5) (Nat.le_of_ble_eq_true rfl)
  rw [lg_entry_eq]
  generalize (lg_sl ([.ref (ad 0), .int a1, .int a2]) ++ List.replicate (5 - (lg_sl ([.ref (ad 0), .int a1, .int a2])).length) Slot.unset).toArray = ls at hl ⊢
  have hl : lv_has ls 5 [(0, .ref (ad 0)), (1, .int a1), (2, .int a2)] := hl
  obtain ⟨K5, hK5⟩ : ∃ K : mI → mJ → Int32 → Int32 → Prop, K = (fun I J x3 x4 => ∀ (H : Heap) (locs : List Loc) (ls : Array Slot), va_P D vwCl (mw 459 ad (xmk ca ad) I J) H → va_S (mA 459 ad) s.heap H locs → lv_has ls 5 [(0, .ref (ad 0)), (1, .int a1), (2, .int a2), (3, .int x3), (4, .int x4)] → W p l e (headSpec wF_guilty ({ frames := 4, cells := 0, slots := 0, locals := 90 } : Room)).room s m (([.ref (ad 0), .int a1, .int a2] : List Value).toArray) below meth c H locs 0 0 (MQ below (mQi D vwCl 459 ad (xmk ca ad) (fun r I' J' => r = fF_guilty S I0 J0 a1 a2 ∧ I' = I0 ∧ J' = J0)) (([.ref (ad 0), .int a1, .int a2] : List Value).toArray) s 0 0 (mA 459 ad)) (F0 m 5 ls [])) := ⟨_, rfl⟩
  have c5 : ∀ (I : mI) (J : mJ) (x3 : Int32) (x4 : Int32), wp_F_guilty_5 K5 (fun r I' J' => r = fF_guilty S I0 J0 a1 a2 ∧ I' = I0 ∧ J' = J0) I J a1 a2 x3 x4 → K5 I J x3 x4 := by
    intro I J x3 x4 h
    rw [hK5]
    intro H locs ls hP hS hl
    unfold wp_F_guilty_5 at h
    refine lv_iload hx hb dF_guilty_5 (lv_at hl 4 rfl) ?_
    refine lv_aload_n hx hb dF_guilty_7 rfl (lv_at hl 0 rfl) ?_
    refine va_get (D := D) (ci := 5) (v := .int (I 0 0)) (C := RF) (T := TF) (N := 11) hx hb htb inF hown hK hP 0 (mw_at (xk_lt (show xk 0 = 0 from rfl) (by decide)) (xm_F (show xk 0 = 0 from rfl) _ _)) rfl 0 (by decide) (htb _ k1_162) (fun _ h9 => h9) rfl dF_guilty_8 ?_
    refine lv_icmp_ge (tgt := 39) hx hb dF_guilty_11 (by decide) (fun hc => ?_) (fun hc => ?_)
    · have h := h.1 hc
      refine lv_aload_n hx hb dF_guilty_39 rfl (lv_at hl 0 rfl) ?_
      refine lv_iload_n hx hb dF_guilty_40 rfl (lv_at hl 3 rfl) ?_
      obtain ⟨S1, h⟩ := h
      obtain ⟨hp2, h⟩ := h
      refine mc_r (va_runV (As := [.int x3]) (rest := []) ⟨hx, hb, hml, hown, htb⟩ (C_F_weightOf l D ca ad S1 I J x3 hp2) (cwV 1 htb (gd_v k2_50 k2_52 ks9 k1_1 k2_53) rfl rfl rfl (by decide +kernel) ⟨Nat.le_of_ble_eq_true rfl, Nat.le_of_ble_eq_true rfl⟩) (mPre_V hK hP hD hN rfl (mw_at (xk_lt (show xk 0 = 0 from rfl) (by decide)) (xm_F (show xk 0 = 0 from rfl) _ _))) rfl rfl hl.1 rfl (lv_room (Nat.le_of_ble_eq_true rfl)) dF_guilty_41 ⟨Nat.le_of_ble_eq_true rfl, Nat.le_of_ble_eq_true rfl⟩) hS (fun H locs hP hS => ?_)
      exact me_i hx hb hr hlk hP hS h dF_guilty_44
    · have h := h.2 hc
      refine lv_aload_n hx hb dF_guilty_14 rfl (lv_at hl 0 rfl) ?_
      refine lv_iload hx hb dF_guilty_15 (lv_at hl 4 rfl) ?_
      refine lv_iload_n hx hb dF_guilty_17 rfl (lv_at hl 1 rfl) ?_
      refine lv_iload_n hx hb dF_guilty_18 rfl (lv_at hl 2 rfl) ?_
      obtain ⟨S3, h⟩ := h
      obtain ⟨hp4, h⟩ := h
      refine mc_r (va_runV (As := [.int x4, .int a1, .int a2]) (rest := []) ⟨hx, hb, hml, hown, htb⟩ (C_F_lowestClash l D ca ad S3 I J x4 a1 a2 hp4) (cwV 3 htb (gd_v k2_151 k2_153 ks17 k1_1 k2_154) rfl rfl rfl (by decide +kernel) ⟨Nat.le_of_ble_eq_true rfl, Nat.le_of_ble_eq_true rfl⟩) (mPre_V hK hP hD hN rfl (mw_at (xk_lt (show xk 0 = 0 from rfl) (by decide)) (xm_F (show xk 0 = 0 from rfl) _ _))) rfl rfl hl.1 rfl (lv_room (Nat.le_of_ble_eq_true rfl)) dF_guilty_19 ⟨Nat.le_of_ble_eq_true rfl, Nat.le_of_ble_eq_true rfl⟩) hS (fun H locs hP hS => ?_)
      refine lv_iconst (v := (-1)) hx hb dF_guilty_22 (by decide) ?_
      refine lv_icmp_eq (tgt := 33) hx hb dF_guilty_23 (by decide) (fun hc => ?_) (fun hc => ?_)
      · have h := h.1 hc
        refine lv_iinc (k := 4) (v := x4 + 1) (lv' := [(4, .int (x4 + 1)), (0, .ref (ad 0)), (1, .int a1), (2, .int a2), (3, .int x3)]) hx hb dF_guilty_33 hl rfl (by rfl) (by decide) rfl (fun ls hl => ?_)
        refine lv_goto (tgt := 5) hx hb dF_guilty_36 (by decide) ?_
        rw [hK5] at h
        exact h _ _ _ hP hS (lv_sub hl [1, 2, 3, 4, 0] rfl)
      · have h := h.2 hc
        refine lv_iload_n hx hb dF_guilty_26 rfl (lv_at hl 3 rfl) ?_
        refine lv_iconst (v := 1) hx hb dF_guilty_27 (by decide) ?_
        refine lv_iload hx hb dF_guilty_28 (lv_at hl 4 rfl) ?_
        refine lv_ishl hx hb dF_guilty_30 ?_
        refine lv_ior hx hb dF_guilty_31 ?_
        refine lv_istore_n (lv' := [(3, .int (x3 ||| ((1 : Int32) <<< (x4 &&& 31)))), (0, .ref (ad 0)), (1, .int a1), (2, .int a2), (4, .int x4)]) hx hb dF_guilty_32 rfl hl (by decide) rfl (fun ls hl => ?_)
        refine lv_iinc (k := 4) (v := x4 + 1) (lv' := [(4, .int (x4 + 1)), (3, .int (x3 ||| ((1 : Int32) <<< (x4 &&& 31)))), (0, .ref (ad 0)), (1, .int a1), (2, .int a2)]) hx hb dF_guilty_33 hl rfl (by rfl) (by decide) rfl (fun ls hl => ?_)
        refine lv_goto (tgt := 5) hx hb dF_guilty_36 (by decide) ?_
        rw [hK5] at h
        exact h _ _ _ hP hS (lv_sub hl [2, 3, 4, 1, 0] rfl)
  have h := P_F_guilty S I0 J0 a1 a2  hp K5 (fun r I' J' => r = fF_guilty S I0 J0 a1 a2 ∧ I' = I0 ∧ J' = J0) c5 ⟨rfl, rfl, rfl⟩
  unfold wp_F_guilty at h
  refine lv_iconst (v := 0) hx hb dF_guilty_0 (by decide) ?_
  refine lv_istore_n (lv' := [(3, .int 0), (0, .ref (ad 0)), (1, .int a1), (2, .int a2)]) hx hb dF_guilty_1 rfl hl (by decide) rfl (fun ls hl => ?_)
  refine lv_iconst (v := 0) hx hb dF_guilty_2 (by decide) ?_
  refine lv_istore (lv' := [(4, .int 0), (3, .int 0), (0, .ref (ad 0)), (1, .int a1), (2, .int a2)]) hx hb dF_guilty_3 hl (by decide) rfl (fun ls hl => ?_)
  rw [hK5] at h
  exact h _ _ _ hP hS (lv_sub hl [2, 3, 4, 1, 0] rfl)
def wp_F_proof (R : Int32 → mI → mJ → Prop) (I0 : mI) (J0 : mJ) (a1 : Int32) : Prop :=
  ((¬ ((fF_isValidator I0 J0 a1) = 0) → (∃ (S2 : mI), (pF_lowestClash S2 I0 J0 a1 7 0 ∧ ((¬ ((fF_lowestClash S2 I0 J0 a1 7 0) = (-1)) → R (fF_lowestClash S2 I0 J0 a1 7 0) I0 J0) ∧ ((fF_lowestClash S2 I0 J0 a1 7 0) = (-1) → R (-3) I0 J0))))) ∧ ((fF_isValidator I0 J0 a1) = 0 → R (-1) I0 J0))
theorem P_F_proof (S : mI) (I0 : mI) (J0 : mJ) (a1 : Int32)  (hp : pX1 S I0 J0 a1)  (R : Int32 → mI → mJ → Prop)  (hR : R (fF_proof S I0 J0 a1) I0 J0) : wp_F_proof R I0 J0 a1 := by
  have hX : XR S I0 J0 := hp
  have hb := hX.1.b
  unfold fF_proof rPrf at hR
  unfold wp_F_proof
  refine ⟨fun h => ⟨S, hX, ?_⟩, fun h => ?_⟩
  · have h1 : iVd S a1 := nn (fun q => h (hX.isD.mpr q))
    rw [if_neg (fun q => q h1)] at hR
    unfold fF_lowestClash
    rw [show (!decide ((0 : Int32) = 0)) = false from rfl]
    cases hz : zPo (zQ S a1 7 false) (zVc S) 0 with
    | none =>
      rw [hz] at hR
      exact ⟨fun h => absurd rfl h, fun _ => hR⟩
    | some x =>
      rw [hz] at hR
      have hi := zPo_lt _ _ _ hz
      exact ⟨fun _ => hR, fun h => absurd h (oI_ne (by omega))⟩
  · rw [if_pos (hX.isD.mp h)] at hR
    exact hR
set_option maxHeartbeats 4000000 in
set_option maxRecDepth 100000 in
theorem C_F_proof (l : Launch) (D : va_G) (ca : Nat → Nat) (ad : Nat → Nat) (S : mI) (I0 : mI) (J0 : mJ) (a1 : Int32)  (hp : pX1 S I0 J0 a1) : Met l yF_proof wF_proof ({ frames := 4, cells := 0, slots := 0, locals := 90 } : Room) (va_Pc [.ref (ad 0), .int a1] (mPre D vwCl (xty ca) 459 ad (xmk ca ad) nL I0 J0)) (mQi D vwCl 459 ad (xmk ca ad) (fun r I' J' => r = fF_proof S I0 J0 a1 ∧ I' = I0 ∧ J' = J0)) 0 0 (mA 459 ad) := by
  refine Met.ofW (cc := cF_proof) (maxL := 3) (ret := (some .int)) (by decide) rfl ?_
  intro p e s m args below meth c s₁ B hml hv
  obtain ⟨rfl, hP, hK, hD0, hN⟩ := hv
  have hx := B.exec
  have hb := B.bytes
  have hr := B.returns
  have htb : ∀ w ∈ wb, w.before _ s = true := fun w h => atoms_spec (ws := wF_proof) B.pre w (List.mem_cons_of_mem _ h)
  have hown : s.vm.findClass RF = some m.cls := findClass_of_methodNamed B.named
  have hlk := B.notSynchronized
  have hD := mw_Dm hD0
  have hS : va_S (mA 459 ad) s.heap s.heap [] := va_S.rf
  have hl := lv_entry ([.ref (ad 0), .int a1]) (n := 3) (Nat.le_of_ble_eq_true rfl)
  rw [lg_entry_eq]
  generalize (lg_sl ([.ref (ad 0), .int a1]) ++ List.replicate (3 - (lg_sl ([.ref (ad 0), .int a1])).length) Slot.unset).toArray = ls at hl ⊢
  have hl : lv_has ls 3 [(0, .ref (ad 0)), (1, .int a1)] := hl
  have h := P_F_proof S I0 J0 a1  hp  (fun r I' J' => r = fF_proof S I0 J0 a1 ∧ I' = I0 ∧ J' = J0)  ⟨rfl, rfl, rfl⟩
  unfold wp_F_proof at h
  refine lv_aload_n hx hb dF_proof_0 rfl (lv_at hl 0 rfl) ?_
  refine lv_iload_n hx hb dF_proof_1 rfl (lv_at hl 1 rfl) ?_
  refine mc_r (va_runV (As := [.int a1]) (rest := []) ⟨hx, hb, hml, hown, htb⟩ (C_F_isValidator l D ca ad I0 J0 a1) (cwV 1 htb (gd_v k1_200 k1_202 ks0 k1_1 k1_203) rfl rfl rfl (by decide +kernel) ⟨Nat.le_of_ble_eq_true rfl, Nat.le_of_ble_eq_true rfl⟩) (mPre_V hK hP hD hN rfl (mw_at (xk_lt (show xk 0 = 0 from rfl) (by decide)) (xm_F (show xk 0 = 0 from rfl) _ _))) rfl rfl hl.1 rfl (lv_room (Nat.le_of_ble_eq_true rfl)) dF_proof_2 ⟨Nat.le_of_ble_eq_true rfl, Nat.le_of_ble_eq_true rfl⟩) hS (fun H locs hP hS => ?_)
  refine lv_if_ne (tgt := 10) hx hb dF_proof_5 (by decide) (fun hc => ?_) (fun hc => ?_)
  · have h := h.1 hc
    refine lv_aload_n hx hb dF_proof_10 rfl (lv_at hl 0 rfl) ?_
    refine lv_iload_n hx hb dF_proof_11 rfl (lv_at hl 1 rfl) ?_
    refine lv_bipush (v := 7) hx hb dF_proof_12 (by decide) ?_
    refine lv_iconst (v := 0) hx hb dF_proof_14 (by decide) ?_
    obtain ⟨S2, h⟩ := h
    obtain ⟨hp3, h⟩ := h
    refine mc_r (va_runV (As := [.int a1, .int 7, .int 0]) (rest := []) ⟨hx, hb, hml, hown, htb⟩ (C_F_lowestClash l D ca ad S2 I0 J0 a1 7 0 hp3) (cwV 3 htb (gd_v k2_151 k2_153 ks17 k1_1 k2_154) rfl rfl rfl (by decide +kernel) ⟨Nat.le_of_ble_eq_true rfl, Nat.le_of_ble_eq_true rfl⟩) (mPre_V hK hP hD hN rfl (mw_at (xk_lt (show xk 0 = 0 from rfl) (by decide)) (xm_F (show xk 0 = 0 from rfl) _ _))) rfl rfl hl.1 rfl (lv_room (Nat.le_of_ble_eq_true rfl)) dF_proof_15 ⟨Nat.le_of_ble_eq_true rfl, Nat.le_of_ble_eq_true rfl⟩) hS (fun H locs hP hS => ?_)
    refine lv_istore_n (lv' := [(2, .int (fF_lowestClash S2 I0 J0 a1 7 0)), (0, .ref (ad 0)), (1, .int a1)]) hx hb dF_proof_18 rfl hl (by decide) rfl (fun ls hl => ?_)
    refine lv_iload_n hx hb dF_proof_19 rfl (lv_at hl 0 rfl) ?_
    refine lv_iconst (v := (-1)) hx hb dF_proof_20 (by decide) ?_
    refine lv_icmp_ne (tgt := 29) hx hb dF_proof_21 (by decide) (fun hc => ?_) (fun hc => ?_)
    · have h := h.1 hc
      refine lv_iload_n hx hb dF_proof_29 rfl (lv_at hl 0 rfl) ?_
      exact me_i hx hb hr hlk hP hS h dF_proof_30
    · have h := h.2 hc
      refine lv_bipush (v := (-3)) hx hb dF_proof_24 (by decide) ?_
      refine lv_goto (tgt := 30) hx hb dF_proof_26 (by decide) ?_
      exact me_i hx hb hr hlk hP hS h dF_proof_30
  · have h := h.2 hc
    refine lv_iconst (v := (-1)) hx hb dF_proof_8 (by decide) ?_
    exact me_i hx hb hr hlk hP hS h dF_proof_9
