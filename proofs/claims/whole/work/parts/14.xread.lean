def iB (S : mI) (x : Int32) : Prop := ∃ n, n < zBc S ∧ x = nI n
def iV (S : mI) (x : Int32) : Prop := ∃ n, n < zVc S ∧ x = nI n
def pF_descends (S I : mI) (J : mJ) (b c : Int32) : Prop := XR S I J ∧ iB S b ∧ ∃ k, k < 60 ∧ c = nI k
def fF_descends (S _I : mI) (_ : mJ) (b c : Int32) : Int32 := bz (zD S (cN b) (cN c))
def pF_checkpointOn (S I : mI) (J : mJ) (b e : Int32) : Prop := XR S I J ∧ iB S b ∧ ∃ k, k ≤ 240 ∧ e = nI k
def fF_checkpointOn (S _I : mI) (_ : mJ) (b e : Int32) : Int32 := nI (64 * cN e + zC S (cN b) (cN e))
def pF_weightOf (S I : mI) (J : mJ) (_ : Int32) : Prop := XR S I J
def fF_weightOf (S _I : mI) (_ : mJ) (x : Int32) : Int32 := zSum S (bt x) (zNv S)
def pF_voteAlike (S I : mI) (J : mJ) (_ _ _ : Int32) : Prop := XR S I J
def fF_voteAlike (S _I : mI) (_ : mJ) (v h s : Int32) : Int32 := oI (zFst (fun i => decide (S 7 i = v ∧ S 8 i = s ∧ S 9 i = h)) (zVc S) 0)
def pF_clash (S I : mI) (J : mJ) (i j : Int32) : Prop := XR S I J ∧ iV S i ∧ iV S j
def fF_clash (S _I : mI) (_ : mJ) (i j : Int32) : Int32 := bz (zCl S (cN i) (cN j))
def pF_isHeard (S I : mI) (J : mJ) (i _ : Int32) : Prop := XR S I J ∧ iV S i
def fF_isHeard (S _I : mI) (_ : mJ) (i x : Int32) : Int32 := bz (zAny S x (cN i))
def pF_lowestClash (S I : mI) (J : mJ) (_ _ _ : Int32) : Prop := XR S I J
def fF_lowestClash (S _I : mI) (_ : mJ) (v x all : Int32) : Int32 := oI (zPo (zQ S v x (!decide (all = 0))) (zVc S) 0)
def iN (j : Nat) : Nat := (j - 445) / 3
def pF_supportOf (S I : mI) (J : mJ) (j : Nat) (b : Int32) : Prop := XR S I J ∧ (∃ n, n < 3 ∧ j = 445 + 3 * n) ∧ iB S b
def fF_supportOf (S _I : mI) (_ : mJ) (j : Nat) (b : Int32) : Int32 := zSup S (iN j) (cN b)
def pF_heaviestChild (S I : mI) (J : mJ) (j : Nat) (b : Int32) : Prop := XR S I J ∧ (∃ n, n < 3 ∧ j = 445 + 3 * n) ∧ iB S b
def fF_heaviestChild (S _I : mI) (_ : mJ) (j : Nat) (b : Int32) : Int32 := oI (zKid S (iN j) (cN b))
theorem iN_n (n : Nat) : iN (445 + 3 * n) = n := by unfold iN; omega
theorem XR.kn {S I : mI} {J : mJ} (h : XR S I J) {n b : Nat} (hn : n < 3) (hb : b < 60) : bL (J (445 + 3 * n) 0) b = zKn S n b := (h.2.2.2.2.2 n hn).1 b hb
theorem XR.hr {S I : mI} {J : mJ} (h : XR S I J) {n i : Nat} (hn : n < 3) (hi : i < 80) : I (445 + 3 * n + 1) i = S 15 (80 * n + i) := (h.2.2.2.2.2 n hn).2.1 i hi
theorem XR.la {S I : mI} {J : mJ} (h : XR S I J) {n v : Nat} (hn : n < 3) (hv : v < 7) : I (445 + 3 * n + 2) v = oI (zLf S n v (zVc S)) := (h.2.2.2.2.2 n hn).2.2.1 v hv
theorem hr_0 {S : mI} {n i : Nat} : S 15 (80 * n + i) = 0 ↔ zHr S n i = false := by unfold zHr; simp
theorem oI_none : oI none = -1 := rfl
theorem oI_ne {k : Nat} (h : k < 2 ^ 31) : ¬ oI (some k) = -1 := by
  show ¬ nI k = -1
  intro e
  have h2 := nI_toInt h
  rw [e] at h2
  have h3 : ((-1 : Int32)).toInt = -1 := rfl
  rw [h3] at h2
  omega

def wp_F_descends (R : Int32 → mI → mJ → Prop) (I0 : mI) (J0 : mJ) (a1 : Int32) (a2 : Int32) : Prop :=
  (vp_in a1 60 ∧ (((lg_cmp (((J0 (3 + 6 * a1.toNatClampNeg) 3) >>> (a2.toInt64 &&& 63)) &&& 1) 0) = 0 → R 0 I0 J0) ∧ (¬ ((lg_cmp (((J0 (3 + 6 * a1.toNatClampNeg) 3) >>> (a2.toInt64 &&& 63)) &&& 1) 0) = 0) → R 1 I0 J0)))
theorem P_F_descends (S : mI) (I0 : mI) (J0 : mJ) (a1 : Int32) (a2 : Int32)  (hp : pF_descends S I0 J0 a1 a2)  (R : Int32 → mI → mJ → Prop)  (hR : R (fF_descends S I0 J0 a1 a2) I0 J0) : wp_F_descends R I0 J0 a1 a2 := by
  obtain ⟨hX, ⟨n, hn, rfl⟩, ⟨k, hk, rfl⟩⟩ := hp
  have hb := hX.1.b
  unfold fF_descends at hR
  rw [cN_nI (by omega), cN_nI (by omega), ← hX.ch hn hk] at hR
  unfold wp_F_descends
  rw [show (nI n).toNatClampNeg = n from nI_clamp (by omega)]
  refine ⟨vp_in_nI (by omega) (by omega), fun h => ?_, fun h => ?_⟩
  · rw [(L_in _ (by omega)).mp ((L_cmp _).mp h)] at hR
    exact hR
  · cases hz : bL (J0 (3 + 6 * n) 3) k with
    | false => exact absurd ((L_cmp _).mpr ((L_in _ (by omega)).mpr hz)) h
    | true => rw [hz] at hR; exact hR
set_option maxHeartbeats 4000000 in
set_option maxRecDepth 100000 in
theorem C_F_descends (l : Launch) (D : va_G) (ca : Nat → Nat) (ad : Nat → Nat) (S : mI) (I0 : mI) (J0 : mJ) (a1 : Int32) (a2 : Int32)  (hp : pF_descends S I0 J0 a1 a2) : Met l yF_descends wF_descends ({ frames := 0, cells := 0, slots := 0, locals := 0 } : Room) (va_Pc [.ref (ad 0), .int a1, .int a2] (mPre D vwCl (xty ca) 459 ad (xmk ca ad) nL I0 J0)) (mQi D vwCl 459 ad (xmk ca ad) (fun r I' J' => r = fF_descends S I0 J0 a1 a2 ∧ I' = I0 ∧ J' = J0)) 0 0 (mA 459 ad) := by
  refine Met.ofW (cc := cF_descends) (maxL := 3) (ret := (some .boolean)) (by decide) rfl ?_
  intro p e s m args below meth c s₁ B hml hv
  obtain ⟨rfl, hP, hK, hD0, hN⟩ := hv
  have hx := B.exec
  have hb := B.bytes
  have hr := B.returns
  have htb : ∀ w ∈ wb, w.before _ s = true := fun w h => atoms_spec (ws := wF_descends) B.pre w (List.mem_cons_of_mem _ h)
  have hown : s.vm.findClass RF = some m.cls := findClass_of_methodNamed B.named
  have hlk := B.notSynchronized
  have hD := mw_Dm hD0
  have hS : va_S (mA 459 ad) s.heap s.heap [] := va_S.rf
  have hl := lv_entry ([.ref (ad 0), .int a1, .int a2]) (n := 3) (Nat.le_of_ble_eq_true rfl)
  rw [lg_entry_eq]
  generalize (lg_sl ([.ref (ad 0), .int a1, .int a2]) ++ List.replicate (3 - (lg_sl ([.ref (ad 0), .int a1, .int a2])).length) Slot.unset).toArray = ls at hl ⊢
  have hl : lv_has ls 3 [(0, .ref (ad 0)), (1, .int a1), (2, .int a2)] := hl
  have h := P_F_descends S I0 J0 a1 a2  hp  (fun r I' J' => r = fF_descends S I0 J0 a1 a2 ∧ I' = I0 ∧ J' = J0)  ⟨rfl, rfl, rfl⟩
  unfold wp_F_descends at h
  refine lv_aload_n hx hb dF_descends_0 rfl (lv_at hl 0 rfl) ?_
  refine va_get (D := D) (ci := 5) (v := .ref (ad 2)) (C := RF) (T := TF) (N := 11) hx hb htb inF hown hK hP 0 (mw_at (xk_lt (show xk 0 = 0 from rfl) (by decide)) (xm_F (show xk 0 = 0 from rfl) _ _)) rfl 4 (by decide) (htb _ k1_166) (fun _ h9 => h9) rfl dF_descends_1 ?_
  refine lv_iload_n hx hb dF_descends_4 rfl (lv_at hl 1 rfl) ?_
  obtain ⟨hn1, h⟩ := h
  refine mr_aald hx hb hK hP 2 2 (xk_lt (show xk 2 = 2 from rfl) (by decide)) (xm_BA (show xk 2 = 2 from rfl) _ _) rfl hn1 dF_descends_5 ?_
  refine va_get (D := D) (ci := 0) (v := .long (J0 (3 + 6 * a1.toNatClampNeg) 3)) (C := RB) (T := TB) (N := 6) hx hb htb inB hown hK hP (3 + 6 * a1.toNatClampNeg) (mw_at (xk_lt (xk_B hn1) (by decide)) (xm_B (xk_B hn1) _ _)) rfl 3 (by decide) (htb _ k1_88) (fun _ h9 => h9) rfl dF_descends_6 ?_
  refine lv_iload_n hx hb dF_descends_9 rfl (lv_at hl 2 rfl) ?_
  refine lv_lshr (v := (J0 (3 + 6 * a1.toNatClampNeg) 3) >>> (a2.toInt64 &&& 63)) hx hb dF_descends_10 rfl ?_
  refine lv_lconst (v := 1) hx hb dF_descends_11 (by decide) ?_
  refine lv_land hx hb dF_descends_12 ?_
  refine lv_lconst (v := 0) hx hb dF_descends_13 (by decide) ?_
  refine W.lcmp hx hb dF_descends_14 ?_
  refine lv_if_eq (tgt := 22) hx hb dF_descends_15 (by decide) (fun hc => ?_) (fun hc => ?_)
  · have h := h.1 hc
    refine lv_iconst (v := 0) hx hb dF_descends_22 (by decide) ?_
    exact me_z hx hb hr hlk hP hS rfl h dF_descends_23
  · have h := h.2 hc
    refine lv_iconst (v := 1) hx hb dF_descends_18 (by decide) ?_
    refine lv_goto (tgt := 23) hx hb dF_descends_19 (by decide) ?_
    exact me_z hx hb hr hlk hP hS rfl h dF_descends_23
def wp_F_checkpointOn_5 (K5 : mI → mJ → Int32 → Int32 → Prop) (R : Int32 → mI → mJ → Prop) (I : mI) (J : mJ) (a1 : Int32) (a2 : Int32) (x3 : Int32) (x4 : Int32) : Prop :=
  ((a1 < x4 → R (fF_checkpointOf I J a2 x3) I J) ∧ (¬ (a1 < x4) → (∃ (S2 : mI), (pF_descends S2 I J a1 x4 ∧ (((fF_descends S2 I J a1 x4) = 0 → K5 I J x3 (x4 + 1)) ∧ (¬ ((fF_descends S2 I J a1 x4) = 0) → (vp_in x4 60 ∧ (((a2 * (I 0 1)) < (I (3 + 6 * x4.toNatClampNeg) 1) → K5 I J x3 (x4 + 1)) ∧ (¬ ((a2 * (I 0 1)) < (I (3 + 6 * x4.toNatClampNeg) 1)) → K5 I J x4 (x4 + 1))))))))))
def wp_F_checkpointOn (K5 : mI → mJ → Int32 → Int32 → Prop) (R : Int32 → mI → mJ → Prop) (I0 : mI) (J0 : mJ) (a1 : Int32) (a2 : Int32) : Prop :=
  K5 I0 J0 0 0
theorem P_F_checkpointOn (S : mI) (I0 : mI) (J0 : mJ) (a1 : Int32) (a2 : Int32)  (hp : pF_checkpointOn S I0 J0 a1 a2) (K5 : mI → mJ → Int32 → Int32 → Prop) (R : Int32 → mI → mJ → Prop) (c5 : ∀ (I : mI) (J : mJ) (x3 : Int32) (x4 : Int32), wp_F_checkpointOn_5 K5 R I J a1 a2 x3 x4 → K5 I J x3 x4) (hR : R (fF_checkpointOn S I0 J0 a1 a2) I0 J0) : wp_F_checkpointOn K5 R I0 J0 a1 a2 := by
  obtain ⟨hX, ⟨n, hn, rfl⟩, ⟨k, hk, rfl⟩⟩ := hp
  have hb := hX.1.b
  unfold fF_checkpointOn at hR
  rw [cN_nI (by omega), cN_nI (by omega), ← zBst_zC hX.1 hn] at hR
  have key : ∀ m c, c + m = n + 1 → K5 I0 J0 (nI (zBst S n k c)) (nI c) := by
    intro m
    induction m with
    | zero =>
      intro c hc
      have hc : c = n + 1 := by omega
      subst hc
      apply c5
      unfold wp_F_checkpointOn_5 fF_checkpointOf
      refine ⟨fun _ => ?_, fun h => absurd (nI_lt (by omega) (by omega)) h⟩
      have hz : zBst S n k (n + 1) < 64 := by
        rcases (zBst_all S n k (n + 1)).1 with h | ⟨h, -⟩ <;> omega
      rw [ck_mk (by omega) hz]
      exact hR
    | succ m ih =>
      intro c hc
      have hi := ih (c + 1) (by omega)
      apply c5
      unfold wp_F_checkpointOn_5
      refine ⟨fun h => absurd h (nI_nlt (by omega) (by omega)), fun _ => ⟨S, ⟨hX, ⟨n, hn, rfl⟩, ⟨c, by omega, rfl⟩⟩, ?_⟩⟩
      have hcc : c < zBc S := by omega
      unfold fF_descends
      rw [cN_nI (n := n) (by omega), cN_nI (n := c) (by omega), show (nI c).toNatClampNeg = c from nI_clamp (by omega), hX.sl hcc, hX.ln, pk_mul, nI_1]
      have hs := hX.1.sl hcc
      have hkl : k * zLn S ≤ 240 * 5 := Nat.mul_le_mul hk (by omega)
      refine ⟨fun h => ?_, fun h => ⟨vp_in_nI (by omega) (by omega), fun h2 => ?_, fun h2 => ?_⟩⟩
      · have h0 := bz_0.mp h
        rw [show zBst S n k (c + 1) = zBst S n k c from by simp only [zBst]; rw [if_neg (fun q => by rw [h0] at q; exact absurd q.1 (by decide))]] at hi
        exact hi
      · have h3 := (nI_ltI (by omega) (by omega)).mp h2
        rw [show zBst S n k (c + 1) = zBst S n k c from by simp only [zBst]; rw [if_neg (fun q => by omega)]] at hi
        exact hi
      · have h0 := bz_n0.mp h
        have h3 : ¬ k * zLn S < zSl S c := fun q => h2 ((nI_ltI (by omega) (by omega)).mpr q)
        rw [show zBst S n k (c + 1) = c from by simp only [zBst]; rw [if_pos ⟨h0, by omega⟩]] at hi
        exact hi
  exact key (n + 1) 0 (by omega)
set_option maxHeartbeats 4000000 in
set_option maxRecDepth 100000 in
theorem C_F_checkpointOn (l : Launch) (D : va_G) (ca : Nat → Nat) (ad : Nat → Nat) (S : mI) (I0 : mI) (J0 : mJ) (a1 : Int32) (a2 : Int32)  (hp : pF_checkpointOn S I0 J0 a1 a2) : Met l yF_checkpointOn wF_checkpointOn ({ frames := 1, cells := 0, slots := 0, locals := 22 } : Room) (va_Pc [.ref (ad 0), .int a1, .int a2] (mPre D vwCl (xty ca) 459 ad (xmk ca ad) nL I0 J0)) (mQi D vwCl 459 ad (xmk ca ad) (fun r I' J' => r = fF_checkpointOn S I0 J0 a1 a2 ∧ I' = I0 ∧ J' = J0)) 0 0 (mA 459 ad) := by
  refine Met.ofW (cc := cF_checkpointOn) (maxL := 5) (ret := (some .int)) (by decide) rfl ?_
  intro p e s m args below meth c s₁ B hml hv
  obtain ⟨rfl, hP, hK, hD0, hN⟩ := hv
  have hx := B.exec
  have hb := B.bytes
  have hr := B.returns
  have htb : ∀ w ∈ wb, w.before _ s = true := fun w h => atoms_spec (ws := wF_checkpointOn) B.pre w (List.mem_cons_of_mem _ h)
  have hown : s.vm.findClass RF = some m.cls := findClass_of_methodNamed B.named
  have hlk := B.notSynchronized
  have hD := mw_Dm hD0
  have hS : va_S (mA 459 ad) s.heap s.heap [] := va_S.rf
  have hl := lv_entry ([.ref (ad 0), .int a1, .int a2]) (n := 5) (Nat.le_of_ble_eq_true rfl)
  rw [lg_entry_eq]
  generalize (lg_sl ([.ref (ad 0), .int a1, .int a2]) ++ List.replicate (5 - (lg_sl ([.ref (ad 0), .int a1, .int a2])).length) Slot.unset).toArray = ls at hl ⊢
  have hl : lv_has ls 5 [(0, .ref (ad 0)), (1, .int a1), (2, .int a2)] := hl
  obtain ⟨K5, hK5⟩ : ∃ K : mI → mJ → Int32 → Int32 → Prop, K = (fun I J x3 x4 => ∀ (H : Heap) (locs : List Loc) (ls : Array Slot), va_P D vwCl (mw 459 ad (xmk ca ad) I J) H → va_S (mA 459 ad) s.heap H locs → lv_has ls 5 [(0, .ref (ad 0)), (1, .int a1), (2, .int a2), (3, .int x3), (4, .int x4)] → W p l e (headSpec wF_checkpointOn ({ frames := 1, cells := 0, slots := 0, locals := 22 } : Room)).room s m (([.ref (ad 0), .int a1, .int a2] : List Value).toArray) below meth c H locs 0 0 (MQ below (mQi D vwCl 459 ad (xmk ca ad) (fun r I' J' => r = fF_checkpointOn S I0 J0 a1 a2 ∧ I' = I0 ∧ J' = J0)) (([.ref (ad 0), .int a1, .int a2] : List Value).toArray) s 0 0 (mA 459 ad)) (F0 m 5 ls [])) := ⟨_, rfl⟩
  have c5 : ∀ (I : mI) (J : mJ) (x3 : Int32) (x4 : Int32), wp_F_checkpointOn_5 K5 (fun r I' J' => r = fF_checkpointOn S I0 J0 a1 a2 ∧ I' = I0 ∧ J' = J0) I J a1 a2 x3 x4 → K5 I J x3 x4 := by
    intro I J x3 x4 h
    rw [hK5]
    intro H locs ls hP hS hl
    unfold wp_F_checkpointOn_5 at h
    refine lv_iload hx hb dF_checkpointOn_5 (lv_at hl 4 rfl) ?_
    refine lv_iload_n hx hb dF_checkpointOn_7 rfl (lv_at hl 1 rfl) ?_
    refine lv_icmp_gt (tgt := 49) hx hb dF_checkpointOn_8 (by decide) (fun hc => ?_) (fun hc => ?_)
    · have h := h.1 hc
      refine lv_iload_n hx hb dF_checkpointOn_49 rfl (lv_at hl 2 rfl) ?_
      refine lv_iload_n hx hb dF_checkpointOn_50 rfl (lv_at hl 3 rfl) ?_
      refine mc_r (va_runS (As := [.int a2, .int x3]) (rest := []) ⟨hx, hb, hml, hown, htb⟩ (C_F_checkpointOf l D ca ad I J a2 x3) (va_cwS 2 htb (gd_s k1_216 k1_217 k1_1 k1_218) rfl rfl rfl (by decide +kernel) ⟨Nat.le_of_ble_eq_true rfl, Nat.le_of_ble_eq_true rfl⟩) (mPre_S hK hP hD hN) rfl rfl hl.1 rfl (lv_room (Nat.le_of_ble_eq_true rfl)) dF_checkpointOn_51 ⟨Nat.le_of_ble_eq_true rfl, Nat.le_of_ble_eq_true rfl⟩) hS (fun H locs hP hS => ?_)
      exact me_i hx hb hr hlk hP hS h dF_checkpointOn_54
    · have h := h.2 hc
      refine lv_aload_n hx hb dF_checkpointOn_11 rfl (lv_at hl 0 rfl) ?_
      refine lv_iload_n hx hb dF_checkpointOn_12 rfl (lv_at hl 1 rfl) ?_
      refine lv_iload hx hb dF_checkpointOn_13 (lv_at hl 4 rfl) ?_
      obtain ⟨S2, h⟩ := h
      obtain ⟨hp3, h⟩ := h
      refine mc_r (va_runV (As := [.int a1, .int x4]) (rest := []) ⟨hx, hb, hml, hown, htb⟩ (C_F_descends l D ca ad S2 I J a1 x4 hp3) (cwV 2 htb (gd_v k1_212 k1_214 ks3 k1_1 k1_215) rfl rfl rfl (by decide +kernel) ⟨Nat.le_of_ble_eq_true rfl, Nat.le_of_ble_eq_true rfl⟩) (mPre_V hK hP hD hN rfl (mw_at (xk_lt (show xk 0 = 0 from rfl) (by decide)) (xm_F (show xk 0 = 0 from rfl) _ _))) rfl rfl hl.1 rfl (lv_room (Nat.le_of_ble_eq_true rfl)) dF_checkpointOn_15 ⟨Nat.le_of_ble_eq_true rfl, Nat.le_of_ble_eq_true rfl⟩) hS (fun H locs hP hS => ?_)
      refine lv_if_eq (tgt := 43) hx hb dF_checkpointOn_18 (by decide) (fun hc => ?_) (fun hc => ?_)
      · have h := h.1 hc
        refine lv_iinc (k := 4) (v := x4 + 1) (lv' := [(4, .int (x4 + 1)), (0, .ref (ad 0)), (1, .int a1), (2, .int a2), (3, .int x3)]) hx hb dF_checkpointOn_43 hl rfl (by rfl) (by decide) rfl (fun ls hl => ?_)
        refine lv_goto (tgt := 5) hx hb dF_checkpointOn_46 (by decide) ?_
        rw [hK5] at h
        exact h _ _ _ hP hS (lv_sub hl [1, 2, 3, 4, 0] rfl)
      · have h := h.2 hc
        refine lv_aload_n hx hb dF_checkpointOn_21 rfl (lv_at hl 0 rfl) ?_
        refine va_get (D := D) (ci := 5) (v := .ref (ad 2)) (C := RF) (T := TF) (N := 11) hx hb htb inF hown hK hP 0 (mw_at (xk_lt (show xk 0 = 0 from rfl) (by decide)) (xm_F (show xk 0 = 0 from rfl) _ _)) rfl 4 (by decide) (htb _ k1_166) (fun _ h9 => h9) rfl dF_checkpointOn_22 ?_
        refine lv_iload hx hb dF_checkpointOn_25 (lv_at hl 4 rfl) ?_
        obtain ⟨hn4, h⟩ := h
        refine mr_aald hx hb hK hP 2 2 (xk_lt (show xk 2 = 2 from rfl) (by decide)) (xm_BA (show xk 2 = 2 from rfl) _ _) rfl hn4 dF_checkpointOn_27 ?_
        refine va_get (D := D) (ci := 0) (v := .int (I (3 + 6 * x4.toNatClampNeg) 1)) (C := RB) (T := TB) (N := 6) hx hb htb inB hown hK hP (3 + 6 * x4.toNatClampNeg) (mw_at (xk_lt (xk_B hn4) (by decide)) (xm_B (xk_B hn4) _ _)) rfl 1 (by decide) (htb _ k1_85) (fun _ h9 => h9) rfl dF_checkpointOn_28 ?_
        refine lv_iload_n hx hb dF_checkpointOn_31 rfl (lv_at hl 2 rfl) ?_
        refine lv_aload_n hx hb dF_checkpointOn_32 rfl (lv_at hl 0 rfl) ?_
        refine va_get (D := D) (ci := 5) (v := .int (I 0 1)) (C := RF) (T := TF) (N := 11) hx hb htb inF hown hK hP 0 (mw_at (xk_lt (show xk 0 = 0 from rfl) (by decide)) (xm_F (show xk 0 = 0 from rfl) _ _)) rfl 1 (by decide) (htb _ k1_163) (fun _ h9 => h9) rfl dF_checkpointOn_33 ?_
        refine lv_imul hx hb dF_checkpointOn_36 ?_
        refine lv_icmp_gt (tgt := 43) hx hb dF_checkpointOn_37 (by decide) (fun hc => ?_) (fun hc => ?_)
        · have h := h.1 hc
          refine lv_iinc (k := 4) (v := x4 + 1) (lv' := [(4, .int (x4 + 1)), (0, .ref (ad 0)), (1, .int a1), (2, .int a2), (3, .int x3)]) hx hb dF_checkpointOn_43 hl rfl (by rfl) (by decide) rfl (fun ls hl => ?_)
          refine lv_goto (tgt := 5) hx hb dF_checkpointOn_46 (by decide) ?_
          rw [hK5] at h
          exact h _ _ _ hP hS (lv_sub hl [1, 2, 3, 4, 0] rfl)
        · have h := h.2 hc
          refine lv_iload hx hb dF_checkpointOn_40 (lv_at hl 4 rfl) ?_
          refine lv_istore_n (lv' := [(3, .int x4), (0, .ref (ad 0)), (1, .int a1), (2, .int a2), (4, .int x4)]) hx hb dF_checkpointOn_42 rfl hl (by decide) rfl (fun ls hl => ?_)
          refine lv_iinc (k := 4) (v := x4 + 1) (lv' := [(4, .int (x4 + 1)), (3, .int x4), (0, .ref (ad 0)), (1, .int a1), (2, .int a2)]) hx hb dF_checkpointOn_43 hl rfl (by rfl) (by decide) rfl (fun ls hl => ?_)
          refine lv_goto (tgt := 5) hx hb dF_checkpointOn_46 (by decide) ?_
          rw [hK5] at h
          exact h _ _ _ hP hS (lv_sub hl [2, 3, 4, 1, 0] rfl)
  have h := P_F_checkpointOn S I0 J0 a1 a2  hp K5 (fun r I' J' => r = fF_checkpointOn S I0 J0 a1 a2 ∧ I' = I0 ∧ J' = J0) c5 ⟨rfl, rfl, rfl⟩
  unfold wp_F_checkpointOn at h
  refine lv_iconst (v := 0) hx hb dF_checkpointOn_0 (by decide) ?_
  refine lv_istore_n (lv' := [(3, .int 0), (0, .ref (ad 0)), (1, .int a1), (2, .int a2)]) hx hb dF_checkpointOn_1 rfl hl (by decide) rfl (fun ls hl => ?_)
  refine lv_iconst (v := 0) hx hb dF_checkpointOn_2 (by decide) ?_
  refine lv_istore (lv' := [(4, .int 0), (3, .int 0), (0, .ref (ad 0)), (1, .int a1), (2, .int a2)]) hx hb dF_checkpointOn_3 hl (by decide) rfl (fun ls hl => ?_)
  rw [hK5] at h
  exact h _ _ _ hP hS (lv_sub hl [2, 3, 4, 1, 0] rfl)
def wp_F_weightOf_4 (K4 : mI → mJ → Int32 → Int32 → Prop) (R : Int32 → mI → mJ → Prop) (I : mI) (J : mJ) (a1 : Int32) (x2 : Int32) (x3 : Int32) : Prop :=
  (((I 0 0) ≤ x3 → R x2 I J) ∧ (¬ ((I 0 0) ≤ x3) → (((fF_isIn I J a1 x3) = 0 → K4 I J x2 (x3 + 1)) ∧ (¬ ((fF_isIn I J a1 x3) = 0) → (vp_in x3 7 ∧ K4 I J (x2 + (I 1 x3.toNatClampNeg)) (x3 + 1))))))
def wp_F_weightOf (K4 : mI → mJ → Int32 → Int32 → Prop) (R : Int32 → mI → mJ → Prop) (I0 : mI) (J0 : mJ) (a1 : Int32) : Prop :=
  K4 I0 J0 0 0
theorem P_F_weightOf (S : mI) (I0 : mI) (J0 : mJ) (a1 : Int32)  (hp : pF_weightOf S I0 J0 a1) (K4 : mI → mJ → Int32 → Int32 → Prop) (R : Int32 → mI → mJ → Prop) (c4 : ∀ (I : mI) (J : mJ) (x2 : Int32) (x3 : Int32), wp_F_weightOf_4 K4 R I J a1 x2 x3 → K4 I J x2 x3) (hR : R (fF_weightOf S I0 J0 a1) I0 J0) : wp_F_weightOf K4 R I0 J0 a1 := by
  have hX : XR S I0 J0 := hp
  have hb := hX.1.b
  unfold fF_weightOf at hR
  have key : ∀ m n, n + m = zNv S → K4 I0 J0 (zSum S (bt a1) n) (nI n) := by
    intro m
    induction m with
    | zero =>
      intro n hn
      have hn : n = zNv S := by omega
      subst hn
      apply c4
      unfold wp_F_weightOf_4
      rw [hX.nv]
      exact ⟨fun _ => hR, fun h => absurd (nI_le (Nat.le_refl _) (by omega)) h⟩
    | succ m ih =>
      intro n hn
      have hi := ih (n + 1) (by omega)
      apply c4
      unfold wp_F_weightOf_4 fF_isIn
      rw [hX.nv, fBit_bz _ (by omega), show (nI n).toNatClampNeg = n from nI_clamp (by omega), nI_1, hX.w (by omega)]
      refine ⟨fun h => absurd h (nI_ge (by omega) (by omega)), fun _ => ⟨fun h => ?_, fun h => ⟨vp_in_nI (by omega) (by omega), ?_⟩⟩⟩
      · rw [zSum_f (bz_0.mp h)] at hi
        exact hi
      · rw [zSum_t (bz_n0.mp h)] at hi
        exact hi
  exact key (zNv S) 0 (by omega)
set_option maxHeartbeats 4000000 in
set_option maxRecDepth 100000 in
theorem C_F_weightOf (l : Launch) (D : va_G) (ca : Nat → Nat) (ad : Nat → Nat) (S : mI) (I0 : mI) (J0 : mJ) (a1 : Int32)  (hp : pF_weightOf S I0 J0 a1) : Met l yF_weightOf wF_weightOf ({ frames := 1, cells := 0, slots := 0, locals := 21 } : Room) (va_Pc [.ref (ad 0), .int a1] (mPre D vwCl (xty ca) 459 ad (xmk ca ad) nL I0 J0)) (mQi D vwCl 459 ad (xmk ca ad) (fun r I' J' => r = fF_weightOf S I0 J0 a1 ∧ I' = I0 ∧ J' = J0)) 0 0 (mA 459 ad) := by
  refine Met.ofW (cc := cF_weightOf) (maxL := 4) (ret := (some .int)) (by decide) rfl ?_
  intro p e s m args below meth c s₁ B hml hv
  obtain ⟨rfl, hP, hK, hD0, hN⟩ := hv
  have hx := B.exec
  have hb := B.bytes
  have hr := B.returns
  have htb : ∀ w ∈ wb, w.before _ s = true := fun w h => atoms_spec (ws := wF_weightOf) B.pre w (List.mem_cons_of_mem _ h)
  have hown : s.vm.findClass RF = some m.cls := findClass_of_methodNamed B.named
  have hlk := B.notSynchronized
  have hD := mw_Dm hD0
  have hS : va_S (mA 459 ad) s.heap s.heap [] := va_S.rf
  have hl := lv_entry ([.ref (ad 0), .int a1]) (n := 4) (Nat.le_of_ble_eq_true rfl)
  rw [lg_entry_eq]
  generalize (lg_sl ([.ref (ad 0), .int a1]) ++ List.replicate (4 - (lg_sl ([.ref (ad 0), .int a1])).length) Slot.unset).toArray = ls at hl ⊢
  have hl : lv_has ls 4 [(0, .ref (ad 0)), (1, .int a1)] := hl
  obtain ⟨K4, hK4⟩ : ∃ K : mI → mJ → Int32 → Int32 → Prop, K = (fun I J x2 x3 => ∀ (H : Heap) (locs : List Loc) (ls : Array Slot), va_P D vwCl (mw 459 ad (xmk ca ad) I J) H → va_S (mA 459 ad) s.heap H locs → lv_has ls 4 [(0, .ref (ad 0)), (1, .int a1), (2, .int x2), (3, .int x3)] → W p l e (headSpec wF_weightOf ({ frames := 1, cells := 0, slots := 0, locals := 21 } : Room)).room s m (([.ref (ad 0), .int a1] : List Value).toArray) below meth c H locs 0 0 (MQ below (mQi D vwCl 459 ad (xmk ca ad) (fun r I' J' => r = fF_weightOf S I0 J0 a1 ∧ I' = I0 ∧ J' = J0)) (([.ref (ad 0), .int a1] : List Value).toArray) s 0 0 (mA 459 ad)) (F0 m 4 ls [])) := ⟨_, rfl⟩
  have c4 : ∀ (I : mI) (J : mJ) (x2 : Int32) (x3 : Int32), wp_F_weightOf_4 K4 (fun r I' J' => r = fF_weightOf S I0 J0 a1 ∧ I' = I0 ∧ J' = J0) I J a1 x2 x3 → K4 I J x2 x3 := by
    intro I J x2 x3 h
    rw [hK4]
    intro H locs ls hP hS hl
    unfold wp_F_weightOf_4 at h
    refine lv_iload_n hx hb dF_weightOf_4 rfl (lv_at hl 3 rfl) ?_
    refine lv_aload_n hx hb dF_weightOf_5 rfl (lv_at hl 0 rfl) ?_
    refine va_get (D := D) (ci := 5) (v := .int (I 0 0)) (C := RF) (T := TF) (N := 11) hx hb htb inF hown hK hP 0 (mw_at (xk_lt (show xk 0 = 0 from rfl) (by decide)) (xm_F (show xk 0 = 0 from rfl) _ _)) rfl 0 (by decide) (htb _ k1_162) (fun _ h9 => h9) rfl dF_weightOf_6 ?_
    refine lv_icmp_ge (tgt := 35) hx hb dF_weightOf_9 (by decide) (fun hc => ?_) (fun hc => ?_)
    · have h := h.1 hc
      refine lv_iload_n hx hb dF_weightOf_35 rfl (lv_at hl 2 rfl) ?_
      exact me_i hx hb hr hlk hP hS h dF_weightOf_36
    · have h := h.2 hc
      refine lv_iload_n hx hb dF_weightOf_12 rfl (lv_at hl 1 rfl) ?_
      refine lv_iload_n hx hb dF_weightOf_13 rfl (lv_at hl 3 rfl) ?_
      refine mc_r (va_runS (As := [.int a1, .int x3]) (rest := []) ⟨hx, hb, hml, hown, htb⟩ (C_F_isIn l D ca ad I J a1 x3) (va_cwS 2 htb (gd_s k2_19 k2_20 k1_1 k2_21) rfl rfl rfl (by decide +kernel) ⟨Nat.le_of_ble_eq_true rfl, Nat.le_of_ble_eq_true rfl⟩) (mPre_S hK hP hD hN) rfl rfl hl.1 rfl (lv_room (Nat.le_of_ble_eq_true rfl)) dF_weightOf_14 ⟨Nat.le_of_ble_eq_true rfl, Nat.le_of_ble_eq_true rfl⟩) hS (fun H locs hP hS => ?_)
      refine lv_if_eq (tgt := 29) hx hb dF_weightOf_17 (by decide) (fun hc => ?_) (fun hc => ?_)
      · have h := h.1 hc
        refine lv_iinc (k := 3) (v := x3 + 1) (lv' := [(3, .int (x3 + 1)), (0, .ref (ad 0)), (1, .int a1), (2, .int x2)]) hx hb dF_weightOf_29 hl rfl (by rfl) (by decide) rfl (fun ls hl => ?_)
        refine lv_goto (tgt := 4) hx hb dF_weightOf_32 (by decide) ?_
        rw [hK4] at h
        exact h _ _ _ hP hS (lv_sub hl [1, 2, 3, 0] rfl)
      · have h := h.2 hc
        refine lv_iload_n hx hb dF_weightOf_20 rfl (lv_at hl 2 rfl) ?_
        refine lv_aload_n hx hb dF_weightOf_21 rfl (lv_at hl 0 rfl) ?_
        refine va_get (D := D) (ci := 5) (v := .ref (ad 1)) (C := RF) (T := TF) (N := 11) hx hb htb inF hown hK hP 0 (mw_at (xk_lt (show xk 0 = 0 from rfl) (by decide)) (xm_F (show xk 0 = 0 from rfl) _ _)) rfl 2 (by decide) (htb _ k1_164) (fun _ h9 => h9) rfl dF_weightOf_22 ?_
        refine lv_iload_n hx hb dF_weightOf_25 rfl (lv_at hl 3 rfl) ?_
        obtain ⟨hn2, h⟩ := h
        refine mr_iald hx hb hK hP 1 0 (xk_lt (show xk 1 = 1 from rfl) (by decide)) (xm_7 (show xk 1 = 1 from rfl) _ _) rfl hn2 dF_weightOf_26 ?_
        refine lv_iadd hx hb dF_weightOf_27 ?_
        refine lv_istore_n (lv' := [(2, .int (x2 + (I 1 x3.toNatClampNeg))), (0, .ref (ad 0)), (1, .int a1), (3, .int x3)]) hx hb dF_weightOf_28 rfl hl (by decide) rfl (fun ls hl => ?_)
        refine lv_iinc (k := 3) (v := x3 + 1) (lv' := [(3, .int (x3 + 1)), (2, .int (x2 + (I 1 x3.toNatClampNeg))), (0, .ref (ad 0)), (1, .int a1)]) hx hb dF_weightOf_29 hl rfl (by rfl) (by decide) rfl (fun ls hl => ?_)
        refine lv_goto (tgt := 4) hx hb dF_weightOf_32 (by decide) ?_
        rw [hK4] at h
        exact h _ _ _ hP hS (lv_sub hl [2, 3, 1, 0] rfl)
  have h := P_F_weightOf S I0 J0 a1  hp K4 (fun r I' J' => r = fF_weightOf S I0 J0 a1 ∧ I' = I0 ∧ J' = J0) c4 ⟨rfl, rfl, rfl⟩
  unfold wp_F_weightOf at h
  refine lv_iconst (v := 0) hx hb dF_weightOf_0 (by decide) ?_
  refine lv_istore_n (lv' := [(2, .int 0), (0, .ref (ad 0)), (1, .int a1)]) hx hb dF_weightOf_1 rfl hl (by decide) rfl (fun ls hl => ?_)
  refine lv_iconst (v := 0) hx hb dF_weightOf_2 (by decide) ?_
  refine lv_istore_n (lv' := [(3, .int 0), (2, .int 0), (0, .ref (ad 0)), (1, .int a1)]) hx hb dF_weightOf_3 rfl hl (by decide) rfl (fun ls hl => ?_)
  rw [hK4] at h
  exact h _ _ _ hP hS (lv_sub hl [2, 3, 1, 0] rfl)
def wp_F_voteAlike_3 (K3 : mI → mJ → Int32 → Prop) (R : Int32 → mI → mJ → Prop) (I : mI) (J : mJ) (a1 : Int32) (a2 : Int32) (a3 : Int32) (x4 : Int32) : Prop :=
  (((I 0 7) ≤ x4 → R (-1) I J) ∧ (¬ ((I 0 7) ≤ x4) → (vp_in x4 80 ∧ ((¬ ((I (364 + x4.toNatClampNeg) 0) = a1) → K3 I J (x4 + 1)) ∧ ((I (364 + x4.toNatClampNeg) 0) = a1 → (vp_in x4 80 ∧ ((¬ ((I (364 + x4.toNatClampNeg) 2) = a2) → K3 I J (x4 + 1)) ∧ ((I (364 + x4.toNatClampNeg) 2) = a2 → (vp_in x4 80 ∧ ((¬ ((I (364 + x4.toNatClampNeg) 1) = a3) → K3 I J (x4 + 1)) ∧ ((I (364 + x4.toNatClampNeg) 1) = a3 → R x4 I J)))))))))))
def wp_F_voteAlike (K3 : mI → mJ → Int32 → Prop) (R : Int32 → mI → mJ → Prop) (I0 : mI) (J0 : mJ) (a1 : Int32) (a2 : Int32) (a3 : Int32) : Prop :=
  K3 I0 J0 0
theorem P_F_voteAlike (S : mI) (I0 : mI) (J0 : mJ) (a1 : Int32) (a2 : Int32) (a3 : Int32)  (hp : pF_voteAlike S I0 J0 a1 a2 a3) (K3 : mI → mJ → Int32 → Prop) (R : Int32 → mI → mJ → Prop) (c3 : ∀ (I : mI) (J : mJ) (x4 : Int32), wp_F_voteAlike_3 K3 R I J a1 a2 a3 x4 → K3 I J x4) (hR : R (fF_voteAlike S I0 J0 a1 a2 a3) I0 J0) : wp_F_voteAlike K3 R I0 J0 a1 a2 a3 := by
  have hX : XR S I0 J0 := hp
  have hb := hX.1.b
  unfold fF_voteAlike at hR
  generalize hpe : (fun i => decide (S 7 i = a1 ∧ S 8 i = a3 ∧ S 9 i = a2)) = p at hR
  have key : ∀ m n, n + m = zVc S → R (oI (zFst p m n)) I0 J0 → K3 I0 J0 (nI n) := by
    intro m
    induction m with
    | zero =>
      intro n hn hr
      have hn : n = zVc S := by omega
      subst hn
      apply c3
      unfold wp_F_voteAlike_3
      rw [hX.vc]
      exact ⟨fun _ => hr, fun h => absurd (nI_le (Nat.le_refl _) (by omega)) h⟩
    | succ m ih =>
      intro n hn hr
      have hi := ih (n + 1) (by omega)
      have hv := hX.2.2.1 n (by omega)
      apply c3
      unfold wp_F_voteAlike_3
      rw [hX.vc, show (nI n).toNatClampNeg = n from nI_clamp (by omega), nI_1, hv.1, hv.2.1, hv.2.2.1]
      have hin : vp_in (nI n) 80 := vp_in_nI (by omega) (by omega)
      have hno : ¬ (S 7 n = a1 ∧ S 8 n = a3 ∧ S 9 n = a2) → K3 I0 J0 (nI (n + 1)) := fun q => by
        apply hi
        rw [fst_f (by rw [← hpe]; exact decide_eq_false q)] at hr
        exact hr
      refine ⟨fun h => absurd h (nI_ge (by omega) (by omega)), fun _ => ⟨hin, fun h => hno (fun q => h q.1), fun h1 => ⟨hin, fun h => hno (fun q => h q.2.2), fun h2 => ⟨hin, fun h => hno (fun q => h q.2.1), fun h3 => ?_⟩⟩⟩⟩
      rw [fst_t (by rw [← hpe]; exact decide_eq_true ⟨h1, h3, h2⟩)] at hr
      exact hr
  exact key (zVc S) 0 (by omega) hR
set_option maxHeartbeats 4000000 in
set_option maxRecDepth 100000 in
theorem C_F_voteAlike (l : Launch) (D : va_G) (ca : Nat → Nat) (ad : Nat → Nat) (S : mI) (I0 : mI) (J0 : mJ) (a1 : Int32) (a2 : Int32) (a3 : Int32)  (hp : pF_voteAlike S I0 J0 a1 a2 a3) : Met l yF_voteAlike wF_voteAlike ({ frames := 0, cells := 0, slots := 0, locals := 0 } : Room) (va_Pc [.ref (ad 0), .int a1, .int a2, .int a3] (mPre D vwCl (xty ca) 459 ad (xmk ca ad) nL I0 J0)) (mQi D vwCl 459 ad (xmk ca ad) (fun r I' J' => r = fF_voteAlike S I0 J0 a1 a2 a3 ∧ I' = I0 ∧ J' = J0)) 0 0 (mA 459 ad) := by
  refine Met.ofW (cc := cF_voteAlike) (maxL := 5) (ret := (some .int)) (by decide) rfl ?_
  intro p e s m args below meth c s₁ B hml hv
  obtain ⟨rfl, hP, hK, hD0, hN⟩ := hv
  have hx := B.exec
  have hb := B.bytes
  have hr := B.returns
  have htb : ∀ w ∈ wb, w.before _ s = true := fun w h => atoms_spec (ws := wF_voteAlike) B.pre w (List.mem_cons_of_mem _ h)
  have hown : s.vm.findClass RF = some m.cls := findClass_of_methodNamed B.named
  have hlk := B.notSynchronized
  have hD := mw_Dm hD0
  have hS : va_S (mA 459 ad) s.heap s.heap [] := va_S.rf
  have hl := lv_entry ([.ref (ad 0), .int a1, .int a2, .int a3]) (n := 5) (Nat.le_of_ble_eq_true rfl)
  rw [lg_entry_eq]
  generalize (lg_sl ([.ref (ad 0), .int a1, .int a2, .int a3]) ++ List.replicate (5 - (lg_sl ([.ref (ad 0), .int a1, .int a2, .int a3])).length) Slot.unset).toArray = ls at hl ⊢
  have hl : lv_has ls 5 [(0, .ref (ad 0)), (1, .int a1), (2, .int a2), (3, .int a3)] := hl
  obtain ⟨K3, hK3⟩ : ∃ K : mI → mJ → Int32 → Prop, K = (fun I J x4 => ∀ (H : Heap) (locs : List Loc) (ls : Array Slot), va_P D vwCl (mw 459 ad (xmk ca ad) I J) H → va_S (mA 459 ad) s.heap H locs → lv_has ls 5 [(0, .ref (ad 0)), (1, .int a1), (2, .int a2), (3, .int a3), (4, .int x4)] → W p l e (headSpec wF_voteAlike ({ frames := 0, cells := 0, slots := 0, locals := 0 } : Room)).room s m (([.ref (ad 0), .int a1, .int a2, .int a3] : List Value).toArray) below meth c H locs 0 0 (MQ below (mQi D vwCl 459 ad (xmk ca ad) (fun r I' J' => r = fF_voteAlike S I0 J0 a1 a2 a3 ∧ I' = I0 ∧ J' = J0)) (([.ref (ad 0), .int a1, .int a2, .int a3] : List Value).toArray) s 0 0 (mA 459 ad)) (F0 m 3 ls [])) := ⟨_, rfl⟩
  have c3 : ∀ (I : mI) (J : mJ) (x4 : Int32), wp_F_voteAlike_3 K3 (fun r I' J' => r = fF_voteAlike S I0 J0 a1 a2 a3 ∧ I' = I0 ∧ J' = J0) I J a1 a2 a3 x4 → K3 I J x4 := by
    intro I J x4 h
    rw [hK3]
    intro H locs ls hP hS hl
    unfold wp_F_voteAlike_3 at h
    refine lv_iload hx hb dF_voteAlike_3 (lv_at hl 4 rfl) ?_
    refine lv_aload_n hx hb dF_voteAlike_5 rfl (lv_at hl 0 rfl) ?_
    refine va_get (D := D) (ci := 5) (v := .int (I 0 7)) (C := RF) (T := TF) (N := 11) hx hb htb inF hown hK hP 0 (mw_at (xk_lt (show xk 0 = 0 from rfl) (by decide)) (xm_F (show xk 0 = 0 from rfl) _ _)) rfl 7 (by decide) (htb _ k1_169) (fun _ h9 => h9) rfl dF_voteAlike_6 ?_
    refine lv_icmp_ge (tgt := 63) hx hb dF_voteAlike_9 (by decide) (fun hc => ?_) (fun hc => ?_)
    · have h := h.1 hc
      refine lv_iconst (v := (-1)) hx hb dF_voteAlike_63 (by decide) ?_
      exact me_i hx hb hr hlk hP hS h dF_voteAlike_64
    · have h := h.2 hc
      refine lv_aload_n hx hb dF_voteAlike_12 rfl (lv_at hl 0 rfl) ?_
      refine va_get (D := D) (ci := 5) (v := .ref (ad 363)) (C := RF) (T := TF) (N := 11) hx hb htb inF hown hK hP 0 (mw_at (xk_lt (show xk 0 = 0 from rfl) (by decide)) (xm_F (show xk 0 = 0 from rfl) _ _)) rfl 6 (by decide) (htb _ k1_168) (fun _ h9 => h9) rfl dF_voteAlike_13 ?_
      refine lv_iload hx hb dF_voteAlike_16 (lv_at hl 4 rfl) ?_
      obtain ⟨hn1, h⟩ := h
      refine mr_aald hx hb hK hP 363 3 (xk_lt (show xk 363 = 7 from rfl) (by decide)) (xm_VA (show xk 363 = 7 from rfl) _ _) rfl hn1 dF_voteAlike_18 ?_
      refine va_get (D := D) (ci := 4) (v := .int (I (364 + x4.toNatClampNeg) 0)) (C := RV) (T := TV) (N := 5) hx hb htb inV hown hK hP (364 + x4.toNatClampNeg) (mw_at (xk_lt (xk_V hn1) (by decide)) (xm_V (xk_V hn1) _ _)) rfl 0 (by decide) (htb _ k1_113) (fun _ h9 => h9) rfl dF_voteAlike_19 ?_
      refine lv_iload_n hx hb dF_voteAlike_22 rfl (lv_at hl 1 rfl) ?_
      refine lv_icmp_ne (tgt := 57) hx hb dF_voteAlike_23 (by decide) (fun hc => ?_) (fun hc => ?_)
      · have h := h.1 hc
        refine lv_iinc (k := 4) (v := x4 + 1) (lv' := [(4, .int (x4 + 1)), (0, .ref (ad 0)), (1, .int a1), (2, .int a2), (3, .int a3)]) hx hb dF_voteAlike_57 hl rfl (by rfl) (by decide) rfl (fun ls hl => ?_)
        refine lv_goto (tgt := 3) hx hb dF_voteAlike_60 (by decide) ?_
        rw [hK3] at h
        exact h _ _ _ hP hS (lv_sub hl [1, 2, 3, 4, 0] rfl)
      · have h := h.2 hc
        refine lv_aload_n hx hb dF_voteAlike_26 rfl (lv_at hl 0 rfl) ?_
        refine va_get (D := D) (ci := 5) (v := .ref (ad 363)) (C := RF) (T := TF) (N := 11) hx hb htb inF hown hK hP 0 (mw_at (xk_lt (show xk 0 = 0 from rfl) (by decide)) (xm_F (show xk 0 = 0 from rfl) _ _)) rfl 6 (by decide) (htb _ k1_168) (fun _ h9 => h9) rfl dF_voteAlike_27 ?_
        refine lv_iload hx hb dF_voteAlike_30 (lv_at hl 4 rfl) ?_
        obtain ⟨hn2, h⟩ := h
        refine mr_aald hx hb hK hP 363 3 (xk_lt (show xk 363 = 7 from rfl) (by decide)) (xm_VA (show xk 363 = 7 from rfl) _ _) rfl hn2 dF_voteAlike_32 ?_
        refine va_get (D := D) (ci := 4) (v := .int (I (364 + x4.toNatClampNeg) 2)) (C := RV) (T := TV) (N := 5) hx hb htb inV hown hK hP (364 + x4.toNatClampNeg) (mw_at (xk_lt (xk_V hn2) (by decide)) (xm_V (xk_V hn2) _ _)) rfl 2 (by decide) (htb _ k1_115) (fun _ h9 => h9) rfl dF_voteAlike_33 ?_
        refine lv_iload_n hx hb dF_voteAlike_36 rfl (lv_at hl 2 rfl) ?_
        refine lv_icmp_ne (tgt := 57) hx hb dF_voteAlike_37 (by decide) (fun hc => ?_) (fun hc => ?_)
        · have h := h.1 hc
          refine lv_iinc (k := 4) (v := x4 + 1) (lv' := [(4, .int (x4 + 1)), (0, .ref (ad 0)), (1, .int a1), (2, .int a2), (3, .int a3)]) hx hb dF_voteAlike_57 hl rfl (by rfl) (by decide) rfl (fun ls hl => ?_)
          refine lv_goto (tgt := 3) hx hb dF_voteAlike_60 (by decide) ?_
          rw [hK3] at h
          exact h _ _ _ hP hS (lv_sub hl [1, 2, 3, 4, 0] rfl)
        · have h := h.2 hc
          refine lv_aload_n hx hb dF_voteAlike_40 rfl (lv_at hl 0 rfl) ?_
          refine va_get (D := D) (ci := 5) (v := .ref (ad 363)) (C := RF) (T := TF) (N := 11) hx hb htb inF hown hK hP 0 (mw_at (xk_lt (show xk 0 = 0 from rfl) (by decide)) (xm_F (show xk 0 = 0 from rfl) _ _)) rfl 6 (by decide) (htb _ k1_168) (fun _ h9 => h9) rfl dF_voteAlike_41 ?_
          refine lv_iload hx hb dF_voteAlike_44 (lv_at hl 4 rfl) ?_
          obtain ⟨hn3, h⟩ := h
          refine mr_aald hx hb hK hP 363 3 (xk_lt (show xk 363 = 7 from rfl) (by decide)) (xm_VA (show xk 363 = 7 from rfl) _ _) rfl hn3 dF_voteAlike_46 ?_
          refine va_get (D := D) (ci := 4) (v := .int (I (364 + x4.toNatClampNeg) 1)) (C := RV) (T := TV) (N := 5) hx hb htb inV hown hK hP (364 + x4.toNatClampNeg) (mw_at (xk_lt (xk_V hn3) (by decide)) (xm_V (xk_V hn3) _ _)) rfl 1 (by decide) (htb _ k1_114) (fun _ h9 => h9) rfl dF_voteAlike_47 ?_
          refine lv_iload_n hx hb dF_voteAlike_50 rfl (lv_at hl 3 rfl) ?_
          refine lv_icmp_ne (tgt := 57) hx hb dF_voteAlike_51 (by decide) (fun hc => ?_) (fun hc => ?_)
          · have h := h.1 hc
            refine lv_iinc (k := 4) (v := x4 + 1) (lv' := [(4, .int (x4 + 1)), (0, .ref (ad 0)), (1, .int a1), (2, .int a2), (3, .int a3)]) hx hb dF_voteAlike_57 hl rfl (by rfl) (by decide) rfl (fun ls hl => ?_)
            refine lv_goto (tgt := 3) hx hb dF_voteAlike_60 (by decide) ?_
            rw [hK3] at h
            exact h _ _ _ hP hS (lv_sub hl [1, 2, 3, 4, 0] rfl)
          · have h := h.2 hc
            refine lv_iload hx hb dF_voteAlike_54 (lv_at hl 4 rfl) ?_
            exact me_i hx hb hr hlk hP hS h dF_voteAlike_56
  have h := P_F_voteAlike S I0 J0 a1 a2 a3  hp K3 (fun r I' J' => r = fF_voteAlike S I0 J0 a1 a2 a3 ∧ I' = I0 ∧ J' = J0) c3 ⟨rfl, rfl, rfl⟩
  unfold wp_F_voteAlike at h
  refine lv_iconst (v := 0) hx hb dF_voteAlike_0 (by decide) ?_
  refine lv_istore (lv' := [(4, .int 0), (0, .ref (ad 0)), (1, .int a1), (2, .int a2), (3, .int a3)]) hx hb dF_voteAlike_1 hl (by decide) rfl (fun ls hl => ?_)
  rw [hK3] at h
  exact h _ _ _ hP hS (lv_sub hl [1, 2, 3, 4, 0] rfl)
def wp_F_clash (R : Int32 → mI → mJ → Prop) (I0 : mI) (J0 : mJ) (a1 : Int32) (a2 : Int32) : Prop :=
  (vp_in a1 80 ∧ (vp_in a2 80 ∧ ((a1 = a2 → R 0 I0 J0) ∧ (¬ (a1 = a2) → (((I0 (364 + a1.toNatClampNeg) 0) = (I0 (364 + a2.toNatClampNeg) 0) → (((fF_epochOf I0 J0 (I0 (364 + a1.toNatClampNeg) 4)) = (fF_epochOf I0 J0 (I0 (364 + a2.toNatClampNeg) 4)) → R 1 I0 J0) ∧ (¬ ((fF_epochOf I0 J0 (I0 (364 + a1.toNatClampNeg) 4)) = (fF_epochOf I0 J0 (I0 (364 + a2.toNatClampNeg) 4))) → ((¬ ((fV_surrounds I0 J0 (364 + a1.toNatClampNeg) (364 + a2.toNatClampNeg)) = 0) → R 1 I0 J0) ∧ ((fV_surrounds I0 J0 (364 + a1.toNatClampNeg) (364 + a2.toNatClampNeg)) = 0 → (((fV_surrounds I0 J0 (364 + a2.toNatClampNeg) (364 + a1.toNatClampNeg)) = 0 → R 0 I0 J0) ∧ (¬ ((fV_surrounds I0 J0 (364 + a2.toNatClampNeg) (364 + a1.toNatClampNeg)) = 0) → R 1 I0 J0))))))) ∧ (¬ ((I0 (364 + a1.toNatClampNeg) 0) = (I0 (364 + a2.toNatClampNeg) 0)) → R 0 I0 J0))))))
theorem P_F_clash (S : mI) (I0 : mI) (J0 : mJ) (a1 : Int32) (a2 : Int32)  (hp : pF_clash S I0 J0 a1 a2)  (R : Int32 → mI → mJ → Prop)  (hR : R (fF_clash S I0 J0 a1 a2) I0 J0) : wp_F_clash R I0 J0 a1 a2 := by
  obtain ⟨hX, ⟨i, hi, rfl⟩, ⟨j, hj, rfl⟩⟩ := hp
  have hb := hX.1.b
  have vi := hX.1.v hi
  have vj := hX.1.v hj
  unfold fF_clash at hR
  rw [cN_nI (by omega), cN_nI (by omega)] at hR
  unfold wp_F_clash fV_surrounds fF_epochOf
  rw [show (nI i).toNatClampNeg = i from nI_clamp (by omega), show (nI j).toNatClampNeg = j from nI_clamp (by omega), hX.v0 hi, hX.v0 hj, hX.v3 hi, hX.v3 hj, hX.v4 hi, hX.v4 hj, fEp_ck (by omega) (by omega), fEp_ck (by omega) (by omega), fEp_ck (by omega) (by omega), fEp_ck (by omega) (by omega)]
  unfold zCl at hR
  refine ⟨vp_in_nI (by omega) (by omega), vp_in_nI (by omega) (by omega), fun h => ?_, fun h => ⟨fun h1 => ⟨fun h2 => ?_, fun h2 => ?_⟩, fun h1 => ?_⟩⟩
  · rw [nI_eq (by omega) (by omega)] at h
    simp [h] at hR
    exact hR
  · rw [nI_eq (by omega) (by omega)] at h h1 h2
    simp [h, h1, h2] at hR
    exact hR
  · rw [nI_eq (by omega) (by omega)] at h h1 h2
    have e1 : ∀ a b c d : Nat, a < 1000 → b < 1000 → c < 1000 → d < 1000 → (if nI a ≤ nI b then (0 : Int32) else if nI c ≤ nI d then 0 else 1) = bz (decide (b < a) && decide (d < c)) := by
      intro a b c d ha hb2 hc hd
      by_cases q1 : a ≤ b
      · rw [if_pos (nI_le q1 (by omega)), decide_eq_false (by omega)]; rfl
      · rw [if_neg (nI_ge (by omega) (by omega)), decide_eq_true (by omega)]
        by_cases q2 : c ≤ d
        · rw [if_pos (nI_le q2 (by omega)), decide_eq_false (by omega)]; rfl
        · rw [if_neg (nI_ge (by omega) (by omega)), decide_eq_true (by omega)]; rfl
    rw [e1 _ _ _ _ (by omega) (by omega) (by omega) (by omega), e1 _ _ _ _ (by omega) (by omega) (by omega) (by omega)]
    rw [decide_eq_true h, decide_eq_true h1, decide_eq_false h2, Bool.true_and, Bool.true_and, Bool.false_or] at hR
    refine ⟨fun h3 => ?_, fun h3 => ⟨fun h4 => ?_, fun h4 => ?_⟩⟩
    · rw [bz_n0.mp h3, Bool.true_or] at hR
      exact hR
    · rw [bz_0.mp h3, bz_0.mp h4] at hR
      exact hR
    · rw [bz_n0.mp h4, Bool.or_true] at hR
      exact hR
  · rw [nI_eq (by omega) (by omega)] at h1
    simp [h1] at hR
    exact hR
set_option maxHeartbeats 4000000 in
set_option maxRecDepth 100000 in
theorem C_F_clash (l : Launch) (D : va_G) (ca : Nat → Nat) (ad : Nat → Nat) (S : mI) (I0 : mI) (J0 : mJ) (a1 : Int32) (a2 : Int32)  (hp : pF_clash S I0 J0 a1 a2) : Met l yF_clash wF_clash ({ frames := 2, cells := 0, slots := 0, locals := 41 } : Room) (va_Pc [.ref (ad 0), .int a1, .int a2] (mPre D vwCl (xty ca) 459 ad (xmk ca ad) nL I0 J0)) (mQi D vwCl 459 ad (xmk ca ad) (fun r I' J' => r = fF_clash S I0 J0 a1 a2 ∧ I' = I0 ∧ J' = J0)) 0 0 (mA 459 ad) := by
  refine Met.ofW (cc := cF_clash) (maxL := 5) (ret := (some .boolean)) (by decide) rfl ?_
  intro p e s m args below meth c s₁ B hml hv
  obtain ⟨rfl, hP, hK, hD0, hN⟩ := hv
  have hx := B.exec
  have hb := B.bytes
  have hr := B.returns
  have htb : ∀ w ∈ wb, w.before _ s = true := fun w h => atoms_spec (ws := wF_clash) B.pre w (List.mem_cons_of_mem _ h)
  have hown : s.vm.findClass RF = some m.cls := findClass_of_methodNamed B.named
  have hlk := B.notSynchronized
  have hD := mw_Dm hD0
  have hS : va_S (mA 459 ad) s.heap s.heap [] := va_S.rf
  have hl := lv_entry ([.ref (ad 0), .int a1, .int a2]) (n := 5) (Nat.le_of_ble_eq_true rfl)
  rw [lg_entry_eq]
  generalize (lg_sl ([.ref (ad 0), .int a1, .int a2]) ++ List.replicate (5 - (lg_sl ([.ref (ad 0), .int a1, .int a2])).length) Slot.unset).toArray = ls at hl ⊢
  have hl : lv_has ls 5 [(0, .ref (ad 0)), (1, .int a1), (2, .int a2)] := hl
  have h := P_F_clash S I0 J0 a1 a2  hp  (fun r I' J' => r = fF_clash S I0 J0 a1 a2 ∧ I' = I0 ∧ J' = J0)  ⟨rfl, rfl, rfl⟩
  unfold wp_F_clash at h
  refine lv_aload_n hx hb dF_clash_0 rfl (lv_at hl 0 rfl) ?_
  refine va_get (D := D) (ci := 5) (v := .ref (ad 363)) (C := RF) (T := TF) (N := 11) hx hb htb inF hown hK hP 0 (mw_at (xk_lt (show xk 0 = 0 from rfl) (by decide)) (xm_F (show xk 0 = 0 from rfl) _ _)) rfl 6 (by decide) (htb _ k1_168) (fun _ h9 => h9) rfl dF_clash_1 ?_
  refine lv_iload_n hx hb dF_clash_4 rfl (lv_at hl 1 rfl) ?_
  obtain ⟨hn1, h⟩ := h
  refine mr_aald hx hb hK hP 363 3 (xk_lt (show xk 363 = 7 from rfl) (by decide)) (xm_VA (show xk 363 = 7 from rfl) _ _) rfl hn1 dF_clash_5 ?_
  refine lv_astore_n (lv' := [(3, .ref (ad (364 + a1.toNatClampNeg))), (0, .ref (ad 0)), (1, .int a1), (2, .int a2)]) hx hb dF_clash_6 rfl hl (by decide) rfl (fun ls hl => ?_)
  refine lv_aload_n hx hb dF_clash_7 rfl (lv_at hl 1 rfl) ?_
  refine va_get (D := D) (ci := 5) (v := .ref (ad 363)) (C := RF) (T := TF) (N := 11) hx hb htb inF hown hK hP 0 (mw_at (xk_lt (show xk 0 = 0 from rfl) (by decide)) (xm_F (show xk 0 = 0 from rfl) _ _)) rfl 6 (by decide) (htb _ k1_168) (fun _ h9 => h9) rfl dF_clash_8 ?_
  refine lv_iload_n hx hb dF_clash_11 rfl (lv_at hl 3 rfl) ?_
  obtain ⟨hn2, h⟩ := h
  refine mr_aald hx hb hK hP 363 3 (xk_lt (show xk 363 = 7 from rfl) (by decide)) (xm_VA (show xk 363 = 7 from rfl) _ _) rfl hn2 dF_clash_12 ?_
  refine lv_astore (lv' := [(4, .ref (ad (364 + a2.toNatClampNeg))), (3, .ref (ad (364 + a1.toNatClampNeg))), (0, .ref (ad 0)), (1, .int a1), (2, .int a2)]) hx hb dF_clash_13 hl (by decide) rfl (fun ls hl => ?_)
  refine lv_iload_n hx hb dF_clash_15 rfl (lv_at hl 3 rfl) ?_
  refine lv_iload_n hx hb dF_clash_16 rfl (lv_at hl 4 rfl) ?_
  refine lv_icmp_eq (tgt := 32) hx hb dF_clash_17 (by decide) (fun hc => ?_) (fun hc => ?_)
  · have h := h.1 hc
    refine lv_iconst (v := 0) hx hb dF_clash_32 (by decide) ?_
    exact me_z hx hb hr hlk hP hS rfl h dF_clash_33
  · have h := h.2 hc
    refine lv_aload_n hx hb dF_clash_20 rfl (lv_at hl 1 rfl) ?_
    refine va_get (D := D) (ci := 4) (v := .int (I0 (364 + a1.toNatClampNeg) 0)) (C := RV) (T := TV) (N := 5) hx hb htb inV hown hK hP (364 + a1.toNatClampNeg) (mw_at (xk_lt (xk_V hn1) (by decide)) (xm_V (xk_V hn1) _ _)) rfl 0 (by decide) (htb _ k1_113) (fun _ h9 => h9) rfl dF_clash_21 ?_
    refine lv_aload hx hb dF_clash_24 (lv_at hl 0 rfl) ?_
    refine va_get (D := D) (ci := 4) (v := .int (I0 (364 + a2.toNatClampNeg) 0)) (C := RV) (T := TV) (N := 5) hx hb htb inV hown hK hP (364 + a2.toNatClampNeg) (mw_at (xk_lt (xk_V hn2) (by decide)) (xm_V (xk_V hn2) _ _)) rfl 0 (by decide) (htb _ k1_113) (fun _ h9 => h9) rfl dF_clash_26 ?_
    refine lv_icmp_eq (tgt := 34) hx hb dF_clash_29 (by decide) (fun hc => ?_) (fun hc => ?_)
    · have h := h.1 hc
      refine lv_aload_n hx hb dF_clash_34 rfl (lv_at hl 1 rfl) ?_
      refine va_get (D := D) (ci := 4) (v := .int (I0 (364 + a1.toNatClampNeg) 4)) (C := RV) (T := TV) (N := 5) hx hb htb inV hown hK hP (364 + a1.toNatClampNeg) (mw_at (xk_lt (xk_V hn1) (by decide)) (xm_V (xk_V hn1) _ _)) rfl 4 (by decide) (htb _ k1_119) (fun _ h9 => h9) rfl dF_clash_35 ?_
      refine mc_r (va_runS (As := [.int (I0 (364 + a1.toNatClampNeg) 4)]) (rest := []) ⟨hx, hb, hml, hown, htb⟩ (C_F_epochOf l D ca ad I0 J0 (I0 (364 + a1.toNatClampNeg) 4)) (va_cwS 1 htb (gd_s k1_219 k1_220 k1_1 k1_221) rfl rfl rfl (by decide +kernel) ⟨Nat.le_of_ble_eq_true rfl, Nat.le_of_ble_eq_true rfl⟩) (mPre_S hK hP hD hN) rfl rfl hl.1 rfl (lv_room (Nat.le_of_ble_eq_true rfl)) dF_clash_38 ⟨Nat.le_of_ble_eq_true rfl, Nat.le_of_ble_eq_true rfl⟩) hS (fun H locs hP hS => ?_)
      refine lv_aload hx hb dF_clash_41 (lv_at hl 0 rfl) ?_
      refine va_get (D := D) (ci := 4) (v := .int (I0 (364 + a2.toNatClampNeg) 4)) (C := RV) (T := TV) (N := 5) hx hb htb inV hown hK hP (364 + a2.toNatClampNeg) (mw_at (xk_lt (xk_V hn2) (by decide)) (xm_V (xk_V hn2) _ _)) rfl 4 (by decide) (htb _ k1_119) (fun _ h9 => h9) rfl dF_clash_43 ?_
      refine mc_r (va_runS (As := [.int (I0 (364 + a2.toNatClampNeg) 4)]) (rest := [.int (fF_epochOf I0 J0 (I0 (364 + a1.toNatClampNeg) 4))]) ⟨hx, hb, hml, hown, htb⟩ (C_F_epochOf l D ca ad I0 J0 (I0 (364 + a2.toNatClampNeg) 4)) (va_cwS 1 htb (gd_s k1_219 k1_220 k1_1 k1_221) rfl rfl rfl (by decide +kernel) ⟨Nat.le_of_ble_eq_true rfl, Nat.le_of_ble_eq_true rfl⟩) (mPre_S hK hP hD hN) rfl rfl hl.1 rfl (lv_room (Nat.le_of_ble_eq_true rfl)) dF_clash_46 ⟨Nat.le_of_ble_eq_true rfl, Nat.le_of_ble_eq_true rfl⟩) hS (fun H locs hP hS => ?_)
      refine lv_icmp_eq (tgt := 70) hx hb dF_clash_49 (by decide) (fun hc => ?_) (fun hc => ?_)
      · have h := h.1 hc
        refine lv_iconst (v := 1) hx hb dF_clash_70 (by decide) ?_
        refine lv_goto (tgt := 75) hx hb dF_clash_71 (by decide) ?_
        exact me_z hx hb hr hlk hP hS rfl h dF_clash_75
      · have h := h.2 hc
        refine lv_aload_n hx hb dF_clash_52 rfl (lv_at hl 1 rfl) ?_
        refine lv_aload hx hb dF_clash_53 (lv_at hl 0 rfl) ?_
        refine mc_r (va_runV (As := [.ref (ad (364 + a2.toNatClampNeg))]) (rest := []) ⟨hx, hb, hml, hown, htb⟩ (C_V_surrounds l D ca ad I0 J0 (364 + a1.toNatClampNeg) (364 + a2.toNatClampNeg) (xk_V hn1) (xk_V hn2)) (cwV 1 htb (gd_v k2_6 k2_7 k2_8 k1_6 k2_9) rfl rfl rfl (by decide +kernel) ⟨Nat.le_of_ble_eq_true rfl, Nat.le_of_ble_eq_true rfl⟩) (mPre_V hK hP hD hN rfl (mw_at (xk_lt (xk_V hn1) (by decide)) (xm_V (xk_V hn1) _ _))) rfl rfl hl.1 rfl (lv_room (Nat.le_of_ble_eq_true rfl)) dF_clash_55 ⟨Nat.le_of_ble_eq_true rfl, Nat.le_of_ble_eq_true rfl⟩) hS (fun H locs hP hS => ?_)
        refine lv_if_ne (tgt := 70) hx hb dF_clash_58 (by decide) (fun hc => ?_) (fun hc => ?_)
        · have h := h.1 hc
          refine lv_iconst (v := 1) hx hb dF_clash_70 (by decide) ?_
          refine lv_goto (tgt := 75) hx hb dF_clash_71 (by decide) ?_
          exact me_z hx hb hr hlk hP hS rfl h dF_clash_75
        · have h := h.2 hc
          refine lv_aload hx hb dF_clash_61 (lv_at hl 0 rfl) ?_
          refine lv_aload_n hx hb dF_clash_63 rfl (lv_at hl 1 rfl) ?_
          refine mc_r (va_runV (As := [.ref (ad (364 + a1.toNatClampNeg))]) (rest := []) ⟨hx, hb, hml, hown, htb⟩ (C_V_surrounds l D ca ad I0 J0 (364 + a2.toNatClampNeg) (364 + a1.toNatClampNeg) (xk_V hn2) (xk_V hn1)) (cwV 1 htb (gd_v k2_6 k2_7 k2_8 k1_6 k2_9) rfl rfl rfl (by decide +kernel) ⟨Nat.le_of_ble_eq_true rfl, Nat.le_of_ble_eq_true rfl⟩) (mPre_V hK hP hD hN rfl (mw_at (xk_lt (xk_V hn2) (by decide)) (xm_V (xk_V hn2) _ _))) rfl rfl hl.1 rfl (lv_room (Nat.le_of_ble_eq_true rfl)) dF_clash_64 ⟨Nat.le_of_ble_eq_true rfl, Nat.le_of_ble_eq_true rfl⟩) hS (fun H locs hP hS => ?_)
          refine lv_if_eq (tgt := 74) hx hb dF_clash_67 (by decide) (fun hc => ?_) (fun hc => ?_)
          · have h := h.1 hc
            refine lv_iconst (v := 0) hx hb dF_clash_74 (by decide) ?_
            exact me_z hx hb hr hlk hP hS rfl h dF_clash_75
          · have h := h.2 hc
            refine lv_iconst (v := 1) hx hb dF_clash_70 (by decide) ?_
            refine lv_goto (tgt := 75) hx hb dF_clash_71 (by decide) ?_
            exact me_z hx hb hr hlk hP hS rfl h dF_clash_75
    · have h := h.2 hc
      refine lv_iconst (v := 0) hx hb dF_clash_32 (by decide) ?_
      exact me_z hx hb hr hlk hP hS rfl h dF_clash_33
def wp_F_isHeard_2 (K2 : mI → mJ → Int32 → Prop) (R : Int32 → mI → mJ → Prop) (I : mI) (J : mJ) (a1 : Int32) (a2 : Int32) (x3 : Int32) : Prop :=
  ((3 ≤ x3 → R 0 I J) ∧ (¬ (3 ≤ x3) → (((fF_isIn I J a2 x3) = 0 → K2 I J (x3 + 1)) ∧ (¬ ((fF_isIn I J a2 x3) = 0) → (vp_in x3 3 ∧ (vp_in a1 80 ∧ (((I ((445 + 3 * x3.toNatClampNeg) + 1) a1.toNatClampNeg) = 0 → K2 I J (x3 + 1)) ∧ (¬ ((I ((445 + 3 * x3.toNatClampNeg) + 1) a1.toNatClampNeg) = 0) → R 1 I J))))))))
def wp_F_isHeard (K2 : mI → mJ → Int32 → Prop) (R : Int32 → mI → mJ → Prop) (I0 : mI) (J0 : mJ) (a1 : Int32) (a2 : Int32) : Prop :=
  K2 I0 J0 0
theorem P_F_isHeard (S : mI) (I0 : mI) (J0 : mJ) (a1 : Int32) (a2 : Int32)  (hp : pF_isHeard S I0 J0 a1 a2) (K2 : mI → mJ → Int32 → Prop) (R : Int32 → mI → mJ → Prop) (c2 : ∀ (I : mI) (J : mJ) (x3 : Int32), wp_F_isHeard_2 K2 R I J a1 a2 x3 → K2 I J x3) (hR : R (fF_isHeard S I0 J0 a1 a2) I0 J0) : wp_F_isHeard K2 R I0 J0 a1 a2 := by
  obtain ⟨hX, ⟨i, hi, rfl⟩⟩ := hp
  have hb := hX.1.b
  unfold fF_isHeard zAny at hR
  rw [cN_nI (by omega)] at hR
  have e : (nI i).toNatClampNeg = i := nI_clamp (by omega)
  have hin : vp_in (nI i) 80 := vp_in_nI (by omega) (by omega)
  have key : ∀ n, n < 3 → ((bt a2 n && zHr S n i) = true → R 1 I0 J0) → ((bt a2 n && zHr S n i) = false → K2 I0 J0 (nI (n + 1))) → K2 I0 J0 (nI n) := by
    intro n hn h1 h2
    apply c2
    unfold wp_F_isHeard_2 fF_isIn
    rw [fBit_bz _ (by omega), e, show (nI n).toNatClampNeg = n from nI_clamp (by omega), hX.hr hn (by omega), nI_1]
    refine ⟨fun h => absurd h (nI_ge (b := 3) (by omega) (by omega)), fun _ => ⟨fun h => h2 (by rw [bz_0.mp h]; rfl), fun h => ⟨vp_in_nI (by omega) (by omega), hin, fun h3 => h2 ?_, fun h3 => h1 ?_⟩⟩⟩
    · rw [hr_0.mp h3, Bool.and_false]
    · cases hz : zHr S n i with
      | false => exact absurd (hr_0.mpr hz) h3
      | true => rw [bz_n0.mp h]; rfl
  have last : R 0 I0 J0 → K2 I0 J0 (nI 3) := fun h0 => by
    apply c2
    unfold wp_F_isHeard_2
    exact ⟨fun _ => h0, fun h => absurd (nI_le (a := 3) (b := 3) (Nat.le_refl _) (by omega)) h⟩
  refine key 0 (by omega) (fun h => ?_) (fun h0 => key 1 (by omega) (fun h => ?_) (fun h1 => key 2 (by omega) (fun h => ?_) (fun h2 => last ?_)))
  · rw [h, Bool.true_or] at hR; exact hR
  · rw [h0, h, Bool.false_or, Bool.true_or] at hR; exact hR
  · rw [h0, h1, h, Bool.false_or, Bool.false_or] at hR; exact hR
  · rw [h0, h1, h2] at hR; exact hR
set_option maxHeartbeats 4000000 in
set_option maxRecDepth 100000 in
theorem C_F_isHeard (l : Launch) (D : va_G) (ca : Nat → Nat) (ad : Nat → Nat) (S : mI) (I0 : mI) (J0 : mJ) (a1 : Int32) (a2 : Int32)  (hp : pF_isHeard S I0 J0 a1 a2) : Met l yF_isHeard wF_isHeard ({ frames := 1, cells := 0, slots := 0, locals := 21 } : Room) (va_Pc [.ref (ad 0), .int a1, .int a2] (mPre D vwCl (xty ca) 459 ad (xmk ca ad) nL I0 J0)) (mQi D vwCl 459 ad (xmk ca ad) (fun r I' J' => r = fF_isHeard S I0 J0 a1 a2 ∧ I' = I0 ∧ J' = J0)) 0 0 (mA 459 ad) := by
  refine Met.ofW (cc := cF_isHeard) (maxL := 4) (ret := (some .boolean)) (by decide) rfl ?_
  intro p e s m args below meth c s₁ B hml hv
  obtain ⟨rfl, hP, hK, hD0, hN⟩ := hv
  have hx := B.exec
  have hb := B.bytes
  have hr := B.returns
  have htb : ∀ w ∈ wb, w.before _ s = true := fun w h => atoms_spec (ws := wF_isHeard) B.pre w (List.mem_cons_of_mem _ h)
  have hown : s.vm.findClass RF = some m.cls := findClass_of_methodNamed B.named
  have hlk := B.notSynchronized
  have hD := mw_Dm hD0
  have hS : va_S (mA 459 ad) s.heap s.heap [] := va_S.rf
  have hl := lv_entry ([.ref (ad 0), .int a1, .int a2]) (n := 4) (Nat.le_of_ble_eq_true rfl)
  rw [lg_entry_eq]
  generalize (lg_sl ([.ref (ad 0), .int a1, .int a2]) ++ List.replicate (4 - (lg_sl ([.ref (ad 0), .int a1, .int a2])).length) Slot.unset).toArray = ls at hl ⊢
  have hl : lv_has ls 4 [(0, .ref (ad 0)), (1, .int a1), (2, .int a2)] := hl
  obtain ⟨K2, hK2⟩ : ∃ K : mI → mJ → Int32 → Prop, K = (fun I J x3 => ∀ (H : Heap) (locs : List Loc) (ls : Array Slot), va_P D vwCl (mw 459 ad (xmk ca ad) I J) H → va_S (mA 459 ad) s.heap H locs → lv_has ls 4 [(0, .ref (ad 0)), (1, .int a1), (2, .int a2), (3, .int x3)] → W p l e (headSpec wF_isHeard ({ frames := 1, cells := 0, slots := 0, locals := 21 } : Room)).room s m (([.ref (ad 0), .int a1, .int a2] : List Value).toArray) below meth c H locs 0 0 (MQ below (mQi D vwCl 459 ad (xmk ca ad) (fun r I' J' => r = fF_isHeard S I0 J0 a1 a2 ∧ I' = I0 ∧ J' = J0)) (([.ref (ad 0), .int a1, .int a2] : List Value).toArray) s 0 0 (mA 459 ad)) (F0 m 2 ls [])) := ⟨_, rfl⟩
  have c2 : ∀ (I : mI) (J : mJ) (x3 : Int32), wp_F_isHeard_2 K2 (fun r I' J' => r = fF_isHeard S I0 J0 a1 a2 ∧ I' = I0 ∧ J' = J0) I J a1 a2 x3 → K2 I J x3 := by
    intro I J x3 h
    rw [hK2]
    intro H locs ls hP hS hl
    unfold wp_F_isHeard_2 at h
    refine lv_iload_n hx hb dF_isHeard_2 rfl (lv_at hl 3 rfl) ?_
    refine lv_iconst (v := 3) hx hb dF_isHeard_3 (by decide) ?_
    refine lv_icmp_ge (tgt := 37) hx hb dF_isHeard_4 (by decide) (fun hc => ?_) (fun hc => ?_)
    · have h := h.1 hc
      refine lv_iconst (v := 0) hx hb dF_isHeard_37 (by decide) ?_
      exact me_z hx hb hr hlk hP hS rfl h dF_isHeard_38
    · have h := h.2 hc
      refine lv_iload_n hx hb dF_isHeard_7 rfl (lv_at hl 2 rfl) ?_
      refine lv_iload_n hx hb dF_isHeard_8 rfl (lv_at hl 3 rfl) ?_
      refine mc_r (va_runS (As := [.int a2, .int x3]) (rest := []) ⟨hx, hb, hml, hown, htb⟩ (C_F_isIn l D ca ad I J a2 x3) (va_cwS 2 htb (gd_s k2_19 k2_20 k1_1 k2_21) rfl rfl rfl (by decide +kernel) ⟨Nat.le_of_ble_eq_true rfl, Nat.le_of_ble_eq_true rfl⟩) (mPre_S hK hP hD hN) rfl rfl hl.1 rfl (lv_room (Nat.le_of_ble_eq_true rfl)) dF_isHeard_9 ⟨Nat.le_of_ble_eq_true rfl, Nat.le_of_ble_eq_true rfl⟩) hS (fun H locs hP hS => ?_)
      refine lv_if_eq (tgt := 31) hx hb dF_isHeard_12 (by decide) (fun hc => ?_) (fun hc => ?_)
      · have h := h.1 hc
        refine lv_iinc (k := 3) (v := x3 + 1) (lv' := [(3, .int (x3 + 1)), (0, .ref (ad 0)), (1, .int a1), (2, .int a2)]) hx hb dF_isHeard_31 hl rfl (by rfl) (by decide) rfl (fun ls hl => ?_)
        refine lv_goto (tgt := 2) hx hb dF_isHeard_34 (by decide) ?_
        rw [hK2] at h
        exact h _ _ _ hP hS (lv_sub hl [1, 2, 3, 0] rfl)
      · have h := h.2 hc
        refine lv_aload_n hx hb dF_isHeard_15 rfl (lv_at hl 0 rfl) ?_
        refine va_get (D := D) (ci := 5) (v := .ref (ad 444)) (C := RF) (T := TF) (N := 11) hx hb htb inF hown hK hP 0 (mw_at (xk_lt (show xk 0 = 0 from rfl) (by decide)) (xm_F (show xk 0 = 0 from rfl) _ _)) rfl 8 (by decide) (htb _ k1_170) (fun _ h9 => h9) rfl dF_isHeard_16 ?_
        refine lv_iload_n hx hb dF_isHeard_19 rfl (lv_at hl 3 rfl) ?_
        obtain ⟨hn2, h⟩ := h
        refine mr_aald hx hb hK hP 444 4 (xk_lt (show xk 444 = 9 from rfl) (by decide)) (xm_NA (show xk 444 = 9 from rfl) _ _) rfl hn2 dF_isHeard_20 ?_
        refine va_get (D := D) (ci := 2) (v := .ref (ad ((445 + 3 * x3.toNatClampNeg) + 1))) (C := RN) (T := TN) (N := 5) hx hb htb inN hown hK hP (445 + 3 * x3.toNatClampNeg) (mw_at (xk_lt (xk_N hn2) (by decide)) (xm_N (xk_N hn2) _ _)) rfl 1 (by decide) (htb _ k1_141) (fun _ h9 => h9) rfl dF_isHeard_21 ?_
        refine lv_iload_n hx hb dF_isHeard_24 rfl (lv_at hl 1 rfl) ?_
        obtain ⟨hn3, h⟩ := h
        refine mr_zald hx hb hK hP ((445 + 3 * x3.toNatClampNeg) + 1) 1 (xk_lt (xk_NH (xk_N hn2)) (by decide)) (xm_Z (xk_NH (xk_N hn2)) _ _) rfl hn3 dF_isHeard_25 ?_
        refine lv_if_eq (tgt := 31) hx hb dF_isHeard_26 (by decide) (fun hc => ?_) (fun hc => ?_)
        · have h := h.1 hc
          refine lv_iinc (k := 3) (v := x3 + 1) (lv' := [(3, .int (x3 + 1)), (0, .ref (ad 0)), (1, .int a1), (2, .int a2)]) hx hb dF_isHeard_31 hl rfl (by rfl) (by decide) rfl (fun ls hl => ?_)
          refine lv_goto (tgt := 2) hx hb dF_isHeard_34 (by decide) ?_
          rw [hK2] at h
          exact h _ _ _ hP hS (lv_sub hl [1, 2, 3, 0] rfl)
        · have h := h.2 hc
          refine lv_iconst (v := 1) hx hb dF_isHeard_29 (by decide) ?_
          exact me_z hx hb hr hlk hP hS rfl h dF_isHeard_30
  have h := P_F_isHeard S I0 J0 a1 a2  hp K2 (fun r I' J' => r = fF_isHeard S I0 J0 a1 a2 ∧ I' = I0 ∧ J' = J0) c2 ⟨rfl, rfl, rfl⟩
  unfold wp_F_isHeard at h
  refine lv_iconst (v := 0) hx hb dF_isHeard_0 (by decide) ?_
  refine lv_istore_n (lv' := [(3, .int 0), (0, .ref (ad 0)), (1, .int a1), (2, .int a2)]) hx hb dF_isHeard_1 rfl hl (by decide) rfl (fun ls hl => ?_)
  rw [hK2] at h
  exact h _ _ _ hP hS (lv_sub hl [1, 2, 3, 0] rfl)
def wp_F_lowestClash_3 (K3 : mI → mJ → Int32 → Prop) (K46 : mI → mJ → Int32 → Int32 → Prop) (R : Int32 → mI → mJ → Prop) (I : mI) (J : mJ) (a1 : Int32) (a2 : Int32) (a3 : Int32) (x4 : Int32) : Prop :=
  (((I 0 7) ≤ x4 → R (-1) I J) ∧ (¬ ((I 0 7) ≤ x4) → (vp_in x4 80 ∧ ((¬ ((I (364 + x4.toNatClampNeg) 0) = a1) → K3 I J (x4 + 1)) ∧ ((I (364 + x4.toNatClampNeg) 0) = a1 → ((¬ (a3 = 0) → K46 I J x4 (x4 + 1)) ∧ (a3 = 0 → (∃ (S2 : mI), (pF_isHeard S2 I J x4 a2 ∧ (((fF_isHeard S2 I J x4 a2) = 0 → K3 I J (x4 + 1)) ∧ (¬ ((fF_isHeard S2 I J x4 a2) = 0) → K46 I J x4 (x4 + 1))))))))))))
def wp_F_lowestClash_46 (K3 : mI → mJ → Int32 → Prop) (K46 : mI → mJ → Int32 → Int32 → Prop) (R : Int32 → mI → mJ → Prop) (I : mI) (J : mJ) (a1 : Int32) (a2 : Int32) (a3 : Int32) (x4 : Int32) (x5 : Int32) : Prop :=
  (((I 0 7) ≤ x5 → K3 I J (x4 + 1)) ∧ (¬ ((I 0 7) ≤ x5) → (∃ (S4 : mI), (pF_clash S4 I J x4 x5 ∧ (((fF_clash S4 I J x4 x5) = 0 → K46 I J x4 (x5 + 1)) ∧ (¬ ((fF_clash S4 I J x4 x5) = 0) → ((¬ (a3 = 0) → R ((100 * x4) + x5) I J) ∧ (a3 = 0 → (∃ (S6 : mI), (pF_isHeard S6 I J x5 a2 ∧ (((fF_isHeard S6 I J x5 a2) = 0 → K46 I J x4 (x5 + 1)) ∧ (¬ ((fF_isHeard S6 I J x5 a2) = 0) → R ((100 * x4) + x5) I J))))))))))))
def wp_F_lowestClash (K3 : mI → mJ → Int32 → Prop) (K46 : mI → mJ → Int32 → Int32 → Prop) (R : Int32 → mI → mJ → Prop) (I0 : mI) (J0 : mJ) (a1 : Int32) (a2 : Int32) (a3 : Int32) : Prop :=
  K3 I0 J0 0
theorem P_F_lowestClash (S : mI) (I0 : mI) (J0 : mJ) (a1 : Int32) (a2 : Int32) (a3 : Int32)  (hp : pF_lowestClash S I0 J0 a1 a2 a3) (K3 : mI → mJ → Int32 → Prop) (K46 : mI → mJ → Int32 → Int32 → Prop) (R : Int32 → mI → mJ → Prop) (c3 : ∀ (I : mI) (J : mJ) (x4 : Int32), wp_F_lowestClash_3 K3 K46 R I J a1 a2 a3 x4 → K3 I J x4) (c46 : ∀ (I : mI) (J : mJ) (x4 : Int32) (x5 : Int32), wp_F_lowestClash_46 K3 K46 R I J a1 a2 a3 x4 x5 → K46 I J x4 x5) (hR : R (fF_lowestClash S I0 J0 a1 a2 a3) I0 J0) : wp_F_lowestClash K3 K46 R I0 J0 a1 a2 a3 := by
  have hX : XR S I0 J0 := hp
  have hb := hX.1.b
  unfold fF_lowestClash at hR
  generalize hqe : zQ S a1 a2 (!decide (a3 = 0)) = q at hR
  have inner : ∀ m n i, i < zVc S → n + m = zVc S → S 7 i = a1 → (a3 = 0 → zAny S a2 i = true) → (∀ j, zFst (q i) m n = some j → R (nI (100 * i + j)) I0 J0) → (zFst (q i) m n = none → K3 I0 J0 (nI (i + 1))) → K46 I0 J0 (nI i) (nI n) := by
    intro m
    induction m with
    | zero =>
      intro n i hi hn h7 hany h1 h2
      have hn : n = zVc S := by omega
      subst hn
      apply c46
      unfold wp_F_lowestClash_46
      rw [hX.vc, nI_1]
      exact ⟨fun _ => h2 rfl, fun h => absurd (nI_le (Nat.le_refl _) (by omega)) h⟩
    | succ m ih =>
      intro n i hi hn h7 hany h1 h2
      apply c46
      unfold wp_F_lowestClash_46
      rw [hX.vc, nI_1 i, nI_1 n]
      have hno : q i n = false → K46 I0 J0 (nI i) (nI (n + 1)) := fun z => ih (n + 1) i hi (by omega) h7 hany (fun j hj => h1 j (by rw [fst_f z]; exact hj)) (fun hj => h2 (by rw [fst_f z]; exact hj))
      have hyes : q i n = true → R (100 * nI i + nI n) I0 J0 := fun z => by
        have := h1 n (fst_t z)
        rw [show (100 : Int32) = nI 100 from rfl, pk_mul, nI_add]
        exact this
      have hq : q i n = (zCl S i n && (!decide (a3 = 0) || (zAny S a2 i && zAny S a2 n))) := by
        rw [← hqe]
        unfold zQ
        rw [decide_eq_true h7, Bool.true_and]
      refine ⟨fun h => absurd h (nI_ge (by omega) (by omega)), fun _ => ⟨S, ⟨hX, ⟨i, hi, rfl⟩, ⟨n, by omega, rfl⟩⟩, ?_⟩⟩
      unfold fF_clash
      rw [cN_nI (n := i) (by omega), cN_nI (n := n) (by omega)]
      refine ⟨fun h => hno ?_, fun h => ⟨fun h3 => hyes ?_, fun h3 => ⟨S, ⟨hX, ⟨n, by omega, rfl⟩⟩, ?_⟩⟩⟩
      · rw [hq, bz_0.mp h]; rfl
      · rw [hq, bz_n0.mp h, decide_eq_false h3]; rfl
      · unfold fF_isHeard
        rw [cN_nI (n := n) (by omega)]
        refine ⟨fun h4 => hno ?_, fun h4 => hyes ?_⟩
        · rw [hq, bz_0.mp h4, decide_eq_true h3, Bool.and_false]
          simp
        · rw [hq, bz_n0.mp h, bz_n0.mp h4, hany h3, decide_eq_true h3]; rfl
  have outer : ∀ m n, n + m = zVc S → R (oI (zPo q m n)) I0 J0 → K3 I0 J0 (nI n) := by
    intro m
    induction m with
    | zero =>
      intro n hn hr
      have hn : n = zVc S := by omega
      subst hn
      apply c3
      unfold wp_F_lowestClash_3
      rw [hX.vc]
      exact ⟨fun _ => hr, fun h => absurd (nI_le (Nat.le_refl _) (by omega)) h⟩
    | succ m ih =>
      intro n hn hr
      apply c3
      unfold wp_F_lowestClash_3
      rw [hX.vc, show (nI n).toNatClampNeg = n from nI_clamp (by omega), nI_1, (hX.2.2.1 n (by omega)).1]
      have hskip : (∀ j, q n j = false) → K3 I0 J0 (nI (n + 1)) := fun z => by
        apply ih (n + 1) (by omega)
        have e : zFst (q n) m (n + 1) = none := by
          have : ∀ k i, zFst (q n) k i = none := by
            intro k
            induction k with
            | zero => intro _; rfl
            | succ k ihk => intro i; rw [fst_f (z i)]; exact ihk _
          exact this _ _
        simp only [zPo] at hr
        rw [e] at hr
        exact hr
      have hgo : S 7 n = a1 → (a3 = 0 → zAny S a2 n = true) → K46 I0 J0 (nI n) (nI (n + 1)) := fun h7 hany => by
        refine inner m (n + 1) n (by omega) (by omega) h7 hany (fun j hj => ?_) (fun hj => ih (n + 1) (by omega) ?_)
        · simp only [zPo] at hr
          rw [hj] at hr
          exact hr
        · simp only [zPo] at hr
          rw [hj] at hr
          exact hr
      refine ⟨fun h => absurd h (nI_ge (by omega) (by omega)), fun _ => ⟨vp_in_nI (by omega) (by omega), fun h => hskip (fun j => ?_), fun h => ⟨fun h3 => hgo h (fun z => absurd z h3), fun h3 => ⟨S, ⟨hX, ⟨n, by omega, rfl⟩⟩, ?_⟩⟩⟩⟩
      · rw [← hqe]
        unfold zQ
        rw [decide_eq_false h]; rfl
      · unfold fF_isHeard
        rw [cN_nI (n := n) (by omega)]
        refine ⟨fun h4 => hskip (fun j => ?_), fun h4 => hgo h (fun _ => bz_n0.mp h4)⟩
        rw [← hqe]
        unfold zQ
        rw [bz_0.mp h4, decide_eq_true h3]
        simp
  exact outer (zVc S) 0 (by omega) hR
set_option maxHeartbeats 4000000 in
set_option maxRecDepth 100000 in
theorem C_F_lowestClash (l : Launch) (D : va_G) (ca : Nat → Nat) (ad : Nat → Nat) (S : mI) (I0 : mI) (J0 : mJ) (a1 : Int32) (a2 : Int32) (a3 : Int32)  (hp : pF_lowestClash S I0 J0 a1 a2 a3) : Met l yF_lowestClash wF_lowestClash ({ frames := 3, cells := 0, slots := 0, locals := 65 } : Room) (va_Pc [.ref (ad 0), .int a1, .int a2, .int a3] (mPre D vwCl (xty ca) 459 ad (xmk ca ad) nL I0 J0)) (mQi D vwCl 459 ad (xmk ca ad) (fun r I' J' => r = fF_lowestClash S I0 J0 a1 a2 a3 ∧ I' = I0 ∧ J' = J0)) 0 0 (mA 459 ad) := by
  refine Met.ofW (cc := cF_lowestClash) (maxL := 6) (ret := (some .int)) (by decide) rfl ?_
  intro p e s m args below meth c s₁ B hml hv
  obtain ⟨rfl, hP, hK, hD0, hN⟩ := hv
  have hx := B.exec
  have hb := B.bytes
  have hr := B.returns
  have htb : ∀ w ∈ wb, w.before _ s = true := fun w h => atoms_spec (ws := wF_lowestClash) B.pre w (List.mem_cons_of_mem _ h)
  have hown : s.vm.findClass RF = some m.cls := findClass_of_methodNamed B.named
  have hlk := B.notSynchronized
  have hD := mw_Dm hD0
  have hS : va_S (mA 459 ad) s.heap s.heap [] := va_S.rf
  have hl := lv_entry ([.ref (ad 0), .int a1, .int a2, .int a3]) (n := 6) (Nat.le_of_ble_eq_true rfl)
  rw [lg_entry_eq]
  generalize (lg_sl ([.ref (ad 0), .int a1, .int a2, .int a3]) ++ List.replicate (6 - (lg_sl ([.ref (ad 0), .int a1, .int a2, .int a3])).length) Slot.unset).toArray = ls at hl ⊢
  have hl : lv_has ls 6 [(0, .ref (ad 0)), (1, .int a1), (2, .int a2), (3, .int a3)] := hl
  obtain ⟨K3, hK3⟩ : ∃ K : mI → mJ → Int32 → Prop, K = (fun I J x4 => ∀ (H : Heap) (locs : List Loc) (ls : Array Slot), va_P D vwCl (mw 459 ad (xmk ca ad) I J) H → va_S (mA 459 ad) s.heap H locs → lv_has ls 6 [(0, .ref (ad 0)), (1, .int a1), (2, .int a2), (3, .int a3), (4, .int x4)] → W p l e (headSpec wF_lowestClash ({ frames := 3, cells := 0, slots := 0, locals := 65 } : Room)).room s m (([.ref (ad 0), .int a1, .int a2, .int a3] : List Value).toArray) below meth c H locs 0 0 (MQ below (mQi D vwCl 459 ad (xmk ca ad) (fun r I' J' => r = fF_lowestClash S I0 J0 a1 a2 a3 ∧ I' = I0 ∧ J' = J0)) (([.ref (ad 0), .int a1, .int a2, .int a3] : List Value).toArray) s 0 0 (mA 459 ad)) (F0 m 3 ls [])) := ⟨_, rfl⟩
  obtain ⟨K46, hK46⟩ : ∃ K : mI → mJ → Int32 → Int32 → Prop, K = (fun I J x4 x5 => ∀ (H : Heap) (locs : List Loc) (ls : Array Slot), va_P D vwCl (mw 459 ad (xmk ca ad) I J) H → va_S (mA 459 ad) s.heap H locs → lv_has ls 6 [(0, .ref (ad 0)), (1, .int a1), (2, .int a2), (3, .int a3), (4, .int x4), (5, .int x5)] → W p l e (headSpec wF_lowestClash ({ frames := 3, cells := 0, slots := 0, locals := 65 } : Room)).room s m (([.ref (ad 0), .int a1, .int a2, .int a3] : List Value).toArray) below meth c H locs 0 0 (MQ below (mQi D vwCl 459 ad (xmk ca ad) (fun r I' J' => r = fF_lowestClash S I0 J0 a1 a2 a3 ∧ I' = I0 ∧ J' = J0)) (([.ref (ad 0), .int a1, .int a2, .int a3] : List Value).toArray) s 0 0 (mA 459 ad)) (F0 m 46 ls [])) := ⟨_, rfl⟩
  have c3 : ∀ (I : mI) (J : mJ) (x4 : Int32), wp_F_lowestClash_3 K3 K46 (fun r I' J' => r = fF_lowestClash S I0 J0 a1 a2 a3 ∧ I' = I0 ∧ J' = J0) I J a1 a2 a3 x4 → K3 I J x4 := by
    intro I J x4 h
    rw [hK3]
    intro H locs ls hP hS hl
    unfold wp_F_lowestClash_3 at h
    refine lv_iload hx hb dF_lowestClash_3 (lv_at hl 4 rfl) ?_
    refine lv_aload_n hx hb dF_lowestClash_5 rfl (lv_at hl 0 rfl) ?_
    refine va_get (D := D) (ci := 5) (v := .int (I 0 7)) (C := RF) (T := TF) (N := 11) hx hb htb inF hown hK hP 0 (mw_at (xk_lt (show xk 0 = 0 from rfl) (by decide)) (xm_F (show xk 0 = 0 from rfl) _ _)) rfl 7 (by decide) (htb _ k1_169) (fun _ h9 => h9) rfl dF_lowestClash_6 ?_
    refine lv_icmp_ge (tgt := 101) hx hb dF_lowestClash_9 (by decide) (fun hc => ?_) (fun hc => ?_)
    · have h := h.1 hc
      refine lv_iconst (v := (-1)) hx hb dF_lowestClash_101 (by decide) ?_
      exact me_i hx hb hr hlk hP hS h dF_lowestClash_102
    · have h := h.2 hc
      refine lv_aload_n hx hb dF_lowestClash_12 rfl (lv_at hl 0 rfl) ?_
      refine va_get (D := D) (ci := 5) (v := .ref (ad 363)) (C := RF) (T := TF) (N := 11) hx hb htb inF hown hK hP 0 (mw_at (xk_lt (show xk 0 = 0 from rfl) (by decide)) (xm_F (show xk 0 = 0 from rfl) _ _)) rfl 6 (by decide) (htb _ k1_168) (fun _ h9 => h9) rfl dF_lowestClash_13 ?_
      refine lv_iload hx hb dF_lowestClash_16 (lv_at hl 4 rfl) ?_
      obtain ⟨hn1, h⟩ := h
      refine mr_aald hx hb hK hP 363 3 (xk_lt (show xk 363 = 7 from rfl) (by decide)) (xm_VA (show xk 363 = 7 from rfl) _ _) rfl hn1 dF_lowestClash_18 ?_
      refine va_get (D := D) (ci := 4) (v := .int (I (364 + x4.toNatClampNeg) 0)) (C := RV) (T := TV) (N := 5) hx hb htb inV hown hK hP (364 + x4.toNatClampNeg) (mw_at (xk_lt (xk_V hn1) (by decide)) (xm_V (xk_V hn1) _ _)) rfl 0 (by decide) (htb _ k1_113) (fun _ h9 => h9) rfl dF_lowestClash_19 ?_
      refine lv_iload_n hx hb dF_lowestClash_22 rfl (lv_at hl 1 rfl) ?_
      refine lv_icmp_ne (tgt := 95) hx hb dF_lowestClash_23 (by decide) (fun hc => ?_) (fun hc => ?_)
      · have h := h.1 hc
        refine lv_iinc (k := 4) (v := x4 + 1) (lv' := [(4, .int (x4 + 1)), (0, .ref (ad 0)), (1, .int a1), (2, .int a2), (3, .int a3)]) hx hb dF_lowestClash_95 hl rfl (by rfl) (by decide) rfl (fun ls hl => ?_)
        refine lv_goto (tgt := 3) hx hb dF_lowestClash_98 (by decide) ?_
        rw [hK3] at h
        exact h _ _ _ hP hS (lv_sub hl [1, 2, 3, 4, 0] rfl)
      · have h := h.2 hc
        refine lv_iload_n hx hb dF_lowestClash_26 rfl (lv_at hl 3 rfl) ?_
        refine lv_if_ne (tgt := 40) hx hb dF_lowestClash_27 (by decide) (fun hc => ?_) (fun hc => ?_)
        · have h := h.1 hc
          refine lv_iload hx hb dF_lowestClash_40 (lv_at hl 4 rfl) ?_
          refine lv_iconst (v := 1) hx hb dF_lowestClash_42 (by decide) ?_
          refine lv_iadd hx hb dF_lowestClash_43 ?_
          refine lv_istore (lv' := [(5, .int (x4 + 1)), (0, .ref (ad 0)), (1, .int a1), (2, .int a2), (3, .int a3), (4, .int x4)]) hx hb dF_lowestClash_44 hl (by decide) rfl (fun ls hl => ?_)
          rw [hK46] at h
          exact h _ _ _ hP hS (lv_sub hl [1, 2, 3, 4, 5, 0] rfl)
        · have h := h.2 hc
          refine lv_aload_n hx hb dF_lowestClash_30 rfl (lv_at hl 0 rfl) ?_
          refine lv_iload hx hb dF_lowestClash_31 (lv_at hl 4 rfl) ?_
          refine lv_iload_n hx hb dF_lowestClash_33 rfl (lv_at hl 2 rfl) ?_
          obtain ⟨S2, h⟩ := h
          obtain ⟨hp3, h⟩ := h
          refine mc_r (va_runV (As := [.int x4, .int a2]) (rest := []) ⟨hx, hb, hml, hown, htb⟩ (C_F_isHeard l D ca ad S2 I J x4 a2 hp3) (cwV 2 htb (gd_v k2_155 k2_157 ks18 k1_1 k2_158) rfl rfl rfl (by decide +kernel) ⟨Nat.le_of_ble_eq_true rfl, Nat.le_of_ble_eq_true rfl⟩) (mPre_V hK hP hD hN rfl (mw_at (xk_lt (show xk 0 = 0 from rfl) (by decide)) (xm_F (show xk 0 = 0 from rfl) _ _))) rfl rfl hl.1 rfl (lv_room (Nat.le_of_ble_eq_true rfl)) dF_lowestClash_34 ⟨Nat.le_of_ble_eq_true rfl, Nat.le_of_ble_eq_true rfl⟩) hS (fun H locs hP hS => ?_)
          refine lv_if_eq (tgt := 95) hx hb dF_lowestClash_37 (by decide) (fun hc => ?_) (fun hc => ?_)
          · have h := h.1 hc
            refine lv_iinc (k := 4) (v := x4 + 1) (lv' := [(4, .int (x4 + 1)), (0, .ref (ad 0)), (1, .int a1), (2, .int a2), (3, .int a3)]) hx hb dF_lowestClash_95 hl rfl (by rfl) (by decide) rfl (fun ls hl => ?_)
            refine lv_goto (tgt := 3) hx hb dF_lowestClash_98 (by decide) ?_
            rw [hK3] at h
            exact h _ _ _ hP hS (lv_sub hl [1, 2, 3, 4, 0] rfl)
          · have h := h.2 hc
            refine lv_iload hx hb dF_lowestClash_40 (lv_at hl 4 rfl) ?_
            refine lv_iconst (v := 1) hx hb dF_lowestClash_42 (by decide) ?_
            refine lv_iadd hx hb dF_lowestClash_43 ?_
            refine lv_istore (lv' := [(5, .int (x4 + 1)), (0, .ref (ad 0)), (1, .int a1), (2, .int a2), (3, .int a3), (4, .int x4)]) hx hb dF_lowestClash_44 hl (by decide) rfl (fun ls hl => ?_)
            rw [hK46] at h
            exact h _ _ _ hP hS (lv_sub hl [1, 2, 3, 4, 5, 0] rfl)
  have c46 : ∀ (I : mI) (J : mJ) (x4 : Int32) (x5 : Int32), wp_F_lowestClash_46 K3 K46 (fun r I' J' => r = fF_lowestClash S I0 J0 a1 a2 a3 ∧ I' = I0 ∧ J' = J0) I J a1 a2 a3 x4 x5 → K46 I J x4 x5 := by
    intro I J x4 x5 h
    rw [hK46]
    intro H locs ls hP hS hl
    unfold wp_F_lowestClash_46 at h
    refine lv_iload hx hb dF_lowestClash_46 (lv_at hl 5 rfl) ?_
    refine lv_aload_n hx hb dF_lowestClash_48 rfl (lv_at hl 0 rfl) ?_
    refine va_get (D := D) (ci := 5) (v := .int (I 0 7)) (C := RF) (T := TF) (N := 11) hx hb htb inF hown hK hP 0 (mw_at (xk_lt (show xk 0 = 0 from rfl) (by decide)) (xm_F (show xk 0 = 0 from rfl) _ _)) rfl 7 (by decide) (htb _ k1_169) (fun _ h9 => h9) rfl dF_lowestClash_49 ?_
    refine lv_icmp_ge (tgt := 95) hx hb dF_lowestClash_52 (by decide) (fun hc => ?_) (fun hc => ?_)
    · have h := h.1 hc
      refine lv_iinc (k := 4) (v := x4 + 1) (lv' := [(4, .int (x4 + 1)), (0, .ref (ad 0)), (1, .int a1), (2, .int a2), (3, .int a3), (5, .int x5)]) hx hb dF_lowestClash_95 hl rfl (by rfl) (by decide) rfl (fun ls hl => ?_)
      refine lv_goto (tgt := 3) hx hb dF_lowestClash_98 (by decide) ?_
      rw [hK3] at h
      exact h _ _ _ hP hS (lv_sub hl [1, 2, 3, 4, 0] rfl)
    · have h := h.2 hc
      refine lv_aload_n hx hb dF_lowestClash_55 rfl (lv_at hl 0 rfl) ?_
      refine lv_iload hx hb dF_lowestClash_56 (lv_at hl 4 rfl) ?_
      refine lv_iload hx hb dF_lowestClash_58 (lv_at hl 5 rfl) ?_
      obtain ⟨S4, h⟩ := h
      obtain ⟨hp5, h⟩ := h
      refine mc_r (va_runV (As := [.int x4, .int x5]) (rest := []) ⟨hx, hb, hml, hown, htb⟩ (C_F_clash l D ca ad S4 I J x4 x5 hp5) (cwV 2 htb (gd_v k2_2 k2_4 ks6 k1_1 k2_5) rfl rfl rfl (by decide +kernel) ⟨Nat.le_of_ble_eq_true rfl, Nat.le_of_ble_eq_true rfl⟩) (mPre_V hK hP hD hN rfl (mw_at (xk_lt (show xk 0 = 0 from rfl) (by decide)) (xm_F (show xk 0 = 0 from rfl) _ _))) rfl rfl hl.1 rfl (lv_room (Nat.le_of_ble_eq_true rfl)) dF_lowestClash_60 ⟨Nat.le_of_ble_eq_true rfl, Nat.le_of_ble_eq_true rfl⟩) hS (fun H locs hP hS => ?_)
      refine lv_if_eq (tgt := 89) hx hb dF_lowestClash_63 (by decide) (fun hc => ?_) (fun hc => ?_)
      · have h := h.1 hc
        refine lv_iinc (k := 5) (v := x5 + 1) (lv' := [(5, .int (x5 + 1)), (0, .ref (ad 0)), (1, .int a1), (2, .int a2), (3, .int a3), (4, .int x4)]) hx hb dF_lowestClash_89 hl rfl (by rfl) (by decide) rfl (fun ls hl => ?_)
        refine lv_goto (tgt := 46) hx hb dF_lowestClash_92 (by decide) ?_
        rw [hK46] at h
        exact h _ _ _ hP hS (lv_sub hl [1, 2, 3, 4, 5, 0] rfl)
      · have h := h.2 hc
        refine lv_iload_n hx hb dF_lowestClash_66 rfl (lv_at hl 3 rfl) ?_
        refine lv_if_ne (tgt := 80) hx hb dF_lowestClash_67 (by decide) (fun hc => ?_) (fun hc => ?_)
        · have h := h.1 hc
          refine lv_bipush (v := 100) hx hb dF_lowestClash_80 (by decide) ?_
          refine lv_iload hx hb dF_lowestClash_82 (lv_at hl 4 rfl) ?_
          refine lv_imul hx hb dF_lowestClash_84 ?_
          refine lv_iload hx hb dF_lowestClash_85 (lv_at hl 5 rfl) ?_
          refine lv_iadd hx hb dF_lowestClash_87 ?_
          exact me_i hx hb hr hlk hP hS h dF_lowestClash_88
        · have h := h.2 hc
          refine lv_aload_n hx hb dF_lowestClash_70 rfl (lv_at hl 0 rfl) ?_
          refine lv_iload hx hb dF_lowestClash_71 (lv_at hl 5 rfl) ?_
          refine lv_iload_n hx hb dF_lowestClash_73 rfl (lv_at hl 2 rfl) ?_
          obtain ⟨S6, h⟩ := h
          obtain ⟨hp7, h⟩ := h
          refine mc_r (va_runV (As := [.int x5, .int a2]) (rest := []) ⟨hx, hb, hml, hown, htb⟩ (C_F_isHeard l D ca ad S6 I J x5 a2 hp7) (cwV 2 htb (gd_v k2_155 k2_157 ks18 k1_1 k2_158) rfl rfl rfl (by decide +kernel) ⟨Nat.le_of_ble_eq_true rfl, Nat.le_of_ble_eq_true rfl⟩) (mPre_V hK hP hD hN rfl (mw_at (xk_lt (show xk 0 = 0 from rfl) (by decide)) (xm_F (show xk 0 = 0 from rfl) _ _))) rfl rfl hl.1 rfl (lv_room (Nat.le_of_ble_eq_true rfl)) dF_lowestClash_74 ⟨Nat.le_of_ble_eq_true rfl, Nat.le_of_ble_eq_true rfl⟩) hS (fun H locs hP hS => ?_)
          refine lv_if_eq (tgt := 89) hx hb dF_lowestClash_77 (by decide) (fun hc => ?_) (fun hc => ?_)
          · have h := h.1 hc
            refine lv_iinc (k := 5) (v := x5 + 1) (lv' := [(5, .int (x5 + 1)), (0, .ref (ad 0)), (1, .int a1), (2, .int a2), (3, .int a3), (4, .int x4)]) hx hb dF_lowestClash_89 hl rfl (by rfl) (by decide) rfl (fun ls hl => ?_)
            refine lv_goto (tgt := 46) hx hb dF_lowestClash_92 (by decide) ?_
            rw [hK46] at h
            exact h _ _ _ hP hS (lv_sub hl [1, 2, 3, 4, 5, 0] rfl)
          · have h := h.2 hc
            refine lv_bipush (v := 100) hx hb dF_lowestClash_80 (by decide) ?_
            refine lv_iload hx hb dF_lowestClash_82 (lv_at hl 4 rfl) ?_
            refine lv_imul hx hb dF_lowestClash_84 ?_
            refine lv_iload hx hb dF_lowestClash_85 (lv_at hl 5 rfl) ?_
            refine lv_iadd hx hb dF_lowestClash_87 ?_
            exact me_i hx hb hr hlk hP hS h dF_lowestClash_88
  have h := P_F_lowestClash S I0 J0 a1 a2 a3  hp K3 K46 (fun r I' J' => r = fF_lowestClash S I0 J0 a1 a2 a3 ∧ I' = I0 ∧ J' = J0) c3 c46 ⟨rfl, rfl, rfl⟩
  unfold wp_F_lowestClash at h
  refine lv_iconst (v := 0) hx hb dF_lowestClash_0 (by decide) ?_
  refine lv_istore (lv' := [(4, .int 0), (0, .ref (ad 0)), (1, .int a1), (2, .int a2), (3, .int a3)]) hx hb dF_lowestClash_1 hl (by decide) rfl (fun ls hl => ?_)
  rw [hK3] at h
  exact h _ _ _ hP hS (lv_sub hl [1, 2, 3, 4, 0] rfl)
def wp_F_supportOf_5 (K5 : mI → mJ → Int32 → Int32 → Prop) (R : Int32 → mI → mJ → Prop) (I : mI) (J : mJ) (j1 : Nat) (a2 : Int32) (x3 : Int32) (x4 : Int32) : Prop :=
  (((I 0 0) ≤ x4 → (∃ (S1 : mI), (pF_weightOf S1 I J x3 ∧ R (fF_weightOf S1 I J x3) I J))) ∧ (¬ ((I 0 0) ≤ x4) → (vp_in x4 7 ∧ (((I (j1 + 2) x4.toNatClampNeg) = (-1) → K5 I J x3 (x4 + 1)) ∧ (¬ ((I (j1 + 2) x4.toNatClampNeg) = (-1)) → (vp_in (I (j1 + 2) x4.toNatClampNeg) 80 ∧ (∃ (S5 : mI), (pF_descends S5 I J (I (364 + (I (j1 + 2) x4.toNatClampNeg).toNatClampNeg) 2) a2 ∧ (((fF_descends S5 I J (I (364 + (I (j1 + 2) x4.toNatClampNeg).toNatClampNeg) 2) a2) = 0 → K5 I J x3 (x4 + 1)) ∧ (¬ ((fF_descends S5 I J (I (364 + (I (j1 + 2) x4.toNatClampNeg).toNatClampNeg) 2) a2) = 0) → K5 I J (x3 ||| ((1 : Int32) <<< (x4 &&& 31))) (x4 + 1)))))))))))
def wp_F_supportOf (K5 : mI → mJ → Int32 → Int32 → Prop) (R : Int32 → mI → mJ → Prop) (I0 : mI) (J0 : mJ) (j1 : Nat) (a2 : Int32) : Prop :=
  K5 I0 J0 0 0
theorem P_F_supportOf (S : mI) (I0 : mI) (J0 : mJ) (j1 : Nat) (a2 : Int32) (hk1 : xk j1 = 10) (hp : pF_supportOf S I0 J0 j1 a2) (K5 : mI → mJ → Int32 → Int32 → Prop) (R : Int32 → mI → mJ → Prop) (c5 : ∀ (I : mI) (J : mJ) (x3 : Int32) (x4 : Int32), wp_F_supportOf_5 K5 R I J j1 a2 x3 x4 → K5 I J x3 x4) (hR : R (fF_supportOf S I0 J0 j1 a2) I0 J0) : wp_F_supportOf K5 R I0 J0 j1 a2 := by
  obtain ⟨hX, ⟨n, hn, rfl⟩, ⟨b, hb0, rfl⟩⟩ := hp
  have hb := hX.1.b
  unfold fF_supportOf zSup at hR
  rw [cN_nI (by omega), iN_n] at hR
  generalize hge : (fun v => match zLf S n v (zVc S) with | none => false | some i => zD S (zVh S i) b) = g at hR
  have key : ∀ m v x, v + m = zNv S → (∀ w, w < 7 → bt x w = (decide (w < v) && g w)) → K5 I0 J0 x (nI v) := by
    intro m
    induction m with
    | zero =>
      intro v x hv hx
      have hv : v = zNv S := by omega
      subst hv
      apply c5
      unfold wp_F_supportOf_5
      rw [hX.nv]
      refine ⟨fun _ => ⟨S, hX, ?_⟩, fun h => absurd (nI_le (Nat.le_refl _) (by omega)) h⟩
      unfold fF_weightOf
      rw [zSum_congr S (f := bt x) (g := g) (zNv S) (fun w hw => by rw [hx w (by omega), decide_eq_true hw, Bool.true_and])]
      exact hR
    | succ m ih =>
      intro v x hv hx
      have hgv : g v = (match zLf S n v (zVc S) with | none => false | some i => zD S (zVh S i) b) := by rw [← hge]
      have no : g v = false → K5 I0 J0 x (nI (v + 1)) := fun z => by
        refine ih (v + 1) x (by omega) (fun w hw => ?_)
        rw [hx w hw]
        by_cases h1 : w < v
        · rw [decide_eq_true h1, decide_eq_true (by omega)]
        · by_cases h2 : w = v
          · subst h2
            rw [z, Bool.and_false, Bool.and_false]
          · rw [decide_eq_false h1, decide_eq_false (by omega)]
      apply c5
      unfold wp_F_supportOf_5
      rw [hX.nv, show (nI v).toNatClampNeg = v from nI_clamp (by omega), nI_1, hX.la hn (by omega)]
      refine ⟨fun h => absurd h (nI_ge (by omega) (by omega)), fun _ => ⟨vp_in_nI (by omega) (by omega), ?_⟩⟩
      cases hz : zLf S n v (zVc S) with
      | none =>
        rw [hz] at hgv
        exact ⟨fun _ => no hgv, fun h => absurd rfl h⟩
      | some i =>
        rw [hz] at hgv
        have hgv : g v = zD S (zVh S i) b := hgv
        have hi : i < zVc S := ((zLf_all S n v (zVc S)).1 i hz).1
        have vi := hX.1.v hi
        refine ⟨fun h => absurd h (oI_ne (by omega)), fun _ => ?_⟩
        show vp_in (nI i) 80 ∧ _
        rw [show oI (some i) = nI i from rfl, show (nI i).toNatClampNeg = i from nI_clamp (by omega), hX.v2 hi]
        refine ⟨vp_in_nI (by omega) (by omega), S, ⟨hX, ⟨zVh S i, vi.2.2.1, rfl⟩, ⟨b, by omega, rfl⟩⟩, ?_⟩
        unfold fF_descends
        rw [cN_nI (n := zVh S i) (by omega), cN_nI (n := b) (by omega)]
        refine ⟨fun h => no (by rw [hgv]; exact bz_0.mp h), fun h => ?_⟩
        refine ih (v + 1) _ (by omega) (fun w hw => ?_)
        rw [bi_set x (by omega) (by omega), hx w hw]
        by_cases h2 : v = w
        · subst h2
          rw [hgv, bz_n0.mp h]
          simp
        · rw [decide_eq_false h2, Bool.or_false]
          by_cases h1 : w < v
          · rw [decide_eq_true h1, decide_eq_true (by omega)]
          · rw [decide_eq_false h1, decide_eq_false (by omega)]
  exact key (zNv S) 0 0 (by omega) (fun w _ => by rw [b_0, decide_eq_false (by omega)]; rfl)
set_option maxHeartbeats 4000000 in
set_option maxRecDepth 100000 in
theorem C_F_supportOf (l : Launch) (D : va_G) (ca : Nat → Nat) (ad : Nat → Nat) (S : mI) (I0 : mI) (J0 : mJ) (j1 : Nat) (a2 : Int32) (hk1 : xk j1 = 10) (hp : pF_supportOf S I0 J0 j1 a2) : Met l yF_supportOf wF_supportOf ({ frames := 2, cells := 0, slots := 0, locals := 44 } : Room) (va_Pc [.ref (ad 0), .ref (ad j1), .int a2] (mPre D vwCl (xty ca) 459 ad (xmk ca ad) nL I0 J0)) (mQi D vwCl 459 ad (xmk ca ad) (fun r I' J' => r = fF_supportOf S I0 J0 j1 a2 ∧ I' = I0 ∧ J' = J0)) 0 0 (mA 459 ad) := by
  refine Met.ofW (cc := cF_supportOf) (maxL := 6) (ret := (some .int)) (by decide) rfl ?_
  intro p e s m args below meth c s₁ B hml hv
  obtain ⟨rfl, hP, hK, hD0, hN⟩ := hv
  have hx := B.exec
  have hb := B.bytes
  have hr := B.returns
  have htb : ∀ w ∈ wb, w.before _ s = true := fun w h => atoms_spec (ws := wF_supportOf) B.pre w (List.mem_cons_of_mem _ h)
  have hown : s.vm.findClass RF = some m.cls := findClass_of_methodNamed B.named
  have hlk := B.notSynchronized
  have hD := mw_Dm hD0
  have hS : va_S (mA 459 ad) s.heap s.heap [] := va_S.rf
  have hl := lv_entry ([.ref (ad 0), .ref (ad j1), .int a2]) (n := 6) (Nat.le_of_ble_eq_true rfl)
  rw [lg_entry_eq]
  generalize (lg_sl ([.ref (ad 0), .ref (ad j1), .int a2]) ++ List.replicate (6 - (lg_sl ([.ref (ad 0), .ref (ad j1), .int a2])).length) Slot.unset).toArray = ls at hl ⊢
  have hl : lv_has ls 6 [(0, .ref (ad 0)), (1, .ref (ad j1)), (2, .int a2)] := hl
  obtain ⟨K5, hK5⟩ : ∃ K : mI → mJ → Int32 → Int32 → Prop, K = (fun I J x3 x4 => ∀ (H : Heap) (locs : List Loc) (ls : Array Slot), va_P D vwCl (mw 459 ad (xmk ca ad) I J) H → va_S (mA 459 ad) s.heap H locs → lv_has ls 6 [(0, .ref (ad 0)), (1, .ref (ad j1)), (2, .int a2), (3, .int x3), (4, .int x4)] → W p l e (headSpec wF_supportOf ({ frames := 2, cells := 0, slots := 0, locals := 44 } : Room)).room s m (([.ref (ad 0), .ref (ad j1), .int a2] : List Value).toArray) below meth c H locs 0 0 (MQ below (mQi D vwCl 459 ad (xmk ca ad) (fun r I' J' => r = fF_supportOf S I0 J0 j1 a2 ∧ I' = I0 ∧ J' = J0)) (([.ref (ad 0), .ref (ad j1), .int a2] : List Value).toArray) s 0 0 (mA 459 ad)) (F0 m 5 ls [])) := ⟨_, rfl⟩
  have c5 : ∀ (I : mI) (J : mJ) (x3 : Int32) (x4 : Int32), wp_F_supportOf_5 K5 (fun r I' J' => r = fF_supportOf S I0 J0 j1 a2 ∧ I' = I0 ∧ J' = J0) I J j1 a2 x3 x4 → K5 I J x3 x4 := by
    intro I J x3 x4 h
    rw [hK5]
    intro H locs ls hP hS hl
    unfold wp_F_supportOf_5 at h
    refine lv_iload hx hb dF_supportOf_5 (lv_at hl 4 rfl) ?_
    refine lv_aload_n hx hb dF_supportOf_7 rfl (lv_at hl 0 rfl) ?_
    refine va_get (D := D) (ci := 5) (v := .int (I 0 0)) (C := RF) (T := TF) (N := 11) hx hb htb inF hown hK hP 0 (mw_at (xk_lt (show xk 0 = 0 from rfl) (by decide)) (xm_F (show xk 0 = 0 from rfl) _ _)) rfl 0 (by decide) (htb _ k1_162) (fun _ h9 => h9) rfl dF_supportOf_8 ?_
    refine lv_icmp_ge (tgt := 60) hx hb dF_supportOf_11 (by decide) (fun hc => ?_) (fun hc => ?_)
    · have h := h.1 hc
      refine lv_aload_n hx hb dF_supportOf_60 rfl (lv_at hl 0 rfl) ?_
      refine lv_iload_n hx hb dF_supportOf_61 rfl (lv_at hl 3 rfl) ?_
      obtain ⟨S1, h⟩ := h
      obtain ⟨hp2, h⟩ := h
      refine mc_r (va_runV (As := [.int x3]) (rest := []) ⟨hx, hb, hml, hown, htb⟩ (C_F_weightOf l D ca ad S1 I J x3 hp2) (cwV 1 htb (gd_v k2_50 k2_52 ks9 k1_1 k2_53) rfl rfl rfl (by decide +kernel) ⟨Nat.le_of_ble_eq_true rfl, Nat.le_of_ble_eq_true rfl⟩) (mPre_V hK hP hD hN rfl (mw_at (xk_lt (show xk 0 = 0 from rfl) (by decide)) (xm_F (show xk 0 = 0 from rfl) _ _))) rfl rfl hl.1 rfl (lv_room (Nat.le_of_ble_eq_true rfl)) dF_supportOf_62 ⟨Nat.le_of_ble_eq_true rfl, Nat.le_of_ble_eq_true rfl⟩) hS (fun H locs hP hS => ?_)
      exact me_i hx hb hr hlk hP hS h dF_supportOf_65
    · have h := h.2 hc
      refine lv_aload_n hx hb dF_supportOf_14 rfl (lv_at hl 1 rfl) ?_
      refine va_get (D := D) (ci := 2) (v := .ref (ad (j1 + 2))) (C := RN) (T := TN) (N := 5) hx hb htb inN hown hK hP j1 (mw_at (xk_lt hk1 (by decide)) (xm_N hk1 _ _)) rfl 2 (by decide) (htb _ k1_143) (fun _ h9 => h9) rfl dF_supportOf_15 ?_
      refine lv_iload hx hb dF_supportOf_18 (lv_at hl 4 rfl) ?_
      obtain ⟨hn3, h⟩ := h
      refine mr_iald hx hb hK hP (j1 + 2) 0 (xk_lt (xk_NL hk1) (by decide)) (xm_7 (xk_NL hk1) _ _) rfl hn3 dF_supportOf_20 ?_
      refine lv_istore (lv' := [(5, .int (I (j1 + 2) x4.toNatClampNeg)), (0, .ref (ad 0)), (1, .ref (ad j1)), (2, .int a2), (3, .int x3), (4, .int x4)]) hx hb dF_supportOf_21 hl (by decide) rfl (fun ls hl => ?_)
      refine lv_iload hx hb dF_supportOf_23 (lv_at hl 0 rfl) ?_
      refine lv_iconst (v := (-1)) hx hb dF_supportOf_25 (by decide) ?_
      refine lv_icmp_eq (tgt := 54) hx hb dF_supportOf_26 (by decide) (fun hc => ?_) (fun hc => ?_)
      · have h := h.1 hc
        refine lv_iinc (k := 5) (v := x4 + 1) (lv' := [(4, .int (x4 + 1)), (5, .int (I (j1 + 2) x4.toNatClampNeg)), (0, .ref (ad 0)), (1, .ref (ad j1)), (2, .int a2), (3, .int x3)]) hx hb dF_supportOf_54 hl rfl (by rfl) (by decide) rfl (fun ls hl => ?_)
        refine lv_goto (tgt := 5) hx hb dF_supportOf_57 (by decide) ?_
        rw [hK5] at h
        exact h _ _ _ hP hS (lv_sub hl [2, 3, 4, 5, 0] rfl)
      · have h := h.2 hc
        refine lv_aload_n hx hb dF_supportOf_29 rfl (lv_at hl 1 rfl) ?_
        refine lv_aload_n hx hb dF_supportOf_30 rfl (lv_at hl 1 rfl) ?_
        refine va_get (D := D) (ci := 5) (v := .ref (ad 363)) (C := RF) (T := TF) (N := 11) hx hb htb inF hown hK hP 0 (mw_at (xk_lt (show xk 0 = 0 from rfl) (by decide)) (xm_F (show xk 0 = 0 from rfl) _ _)) rfl 6 (by decide) (htb _ k1_168) (fun _ h9 => h9) rfl dF_supportOf_31 ?_
        refine lv_iload hx hb dF_supportOf_34 (lv_at hl 0 rfl) ?_
        obtain ⟨hn4, h⟩ := h
        refine mr_aald hx hb hK hP 363 3 (xk_lt (show xk 363 = 7 from rfl) (by decide)) (xm_VA (show xk 363 = 7 from rfl) _ _) rfl hn4 dF_supportOf_36 ?_
        refine va_get (D := D) (ci := 4) (v := .int (I (364 + (I (j1 + 2) x4.toNatClampNeg).toNatClampNeg) 2)) (C := RV) (T := TV) (N := 5) hx hb htb inV hown hK hP (364 + (I (j1 + 2) x4.toNatClampNeg).toNatClampNeg) (mw_at (xk_lt (xk_V hn4) (by decide)) (xm_V (xk_V hn4) _ _)) rfl 2 (by decide) (htb _ k1_115) (fun _ h9 => h9) rfl dF_supportOf_37 ?_
        refine lv_iload_n hx hb dF_supportOf_40 rfl (lv_at hl 3 rfl) ?_
        obtain ⟨S5, h⟩ := h
        obtain ⟨hp6, h⟩ := h
        refine mc_r (va_runV (As := [.int (I (364 + (I (j1 + 2) x4.toNatClampNeg).toNatClampNeg) 2), .int a2]) (rest := []) ⟨hx, hb, hml, hown, htb⟩ (C_F_descends l D ca ad S5 I J (I (364 + (I (j1 + 2) x4.toNatClampNeg).toNatClampNeg) 2) a2 hp6) (cwV 2 htb (gd_v k1_212 k1_214 ks3 k1_1 k1_215) rfl rfl rfl (by decide +kernel) ⟨Nat.le_of_ble_eq_true rfl, Nat.le_of_ble_eq_true rfl⟩) (mPre_V hK hP hD hN rfl (mw_at (xk_lt (show xk 0 = 0 from rfl) (by decide)) (xm_F (show xk 0 = 0 from rfl) _ _))) rfl rfl hl.1 rfl (lv_room (Nat.le_of_ble_eq_true rfl)) dF_supportOf_41 ⟨Nat.le_of_ble_eq_true rfl, Nat.le_of_ble_eq_true rfl⟩) hS (fun H locs hP hS => ?_)
        refine lv_if_eq (tgt := 54) hx hb dF_supportOf_44 (by decide) (fun hc => ?_) (fun hc => ?_)
        · have h := h.1 hc
          refine lv_iinc (k := 5) (v := x4 + 1) (lv' := [(4, .int (x4 + 1)), (5, .int (I (j1 + 2) x4.toNatClampNeg)), (0, .ref (ad 0)), (1, .ref (ad j1)), (2, .int a2), (3, .int x3)]) hx hb dF_supportOf_54 hl rfl (by rfl) (by decide) rfl (fun ls hl => ?_)
          refine lv_goto (tgt := 5) hx hb dF_supportOf_57 (by decide) ?_
          rw [hK5] at h
          exact h _ _ _ hP hS (lv_sub hl [2, 3, 4, 5, 0] rfl)
        · have h := h.2 hc
          refine lv_iload_n hx hb dF_supportOf_47 rfl (lv_at hl 4 rfl) ?_
          refine lv_iconst (v := 1) hx hb dF_supportOf_48 (by decide) ?_
          refine lv_iload hx hb dF_supportOf_49 (lv_at hl 5 rfl) ?_
          refine lv_ishl hx hb dF_supportOf_51 ?_
          refine lv_ior hx hb dF_supportOf_52 ?_
          refine lv_istore_n (lv' := [(3, .int (x3 ||| ((1 : Int32) <<< (x4 &&& 31)))), (5, .int (I (j1 + 2) x4.toNatClampNeg)), (0, .ref (ad 0)), (1, .ref (ad j1)), (2, .int a2), (4, .int x4)]) hx hb dF_supportOf_53 rfl hl (by decide) rfl (fun ls hl => ?_)
          refine lv_iinc (k := 5) (v := x4 + 1) (lv' := [(4, .int (x4 + 1)), (3, .int (x3 ||| ((1 : Int32) <<< (x4 &&& 31)))), (5, .int (I (j1 + 2) x4.toNatClampNeg)), (0, .ref (ad 0)), (1, .ref (ad j1)), (2, .int a2)]) hx hb dF_supportOf_54 hl rfl (by rfl) (by decide) rfl (fun ls hl => ?_)
          refine lv_goto (tgt := 5) hx hb dF_supportOf_57 (by decide) ?_
          rw [hK5] at h
          exact h _ _ _ hP hS (lv_sub hl [3, 4, 5, 1, 0] rfl)
  have h := P_F_supportOf S I0 J0 j1 a2 hk1 hp K5 (fun r I' J' => r = fF_supportOf S I0 J0 j1 a2 ∧ I' = I0 ∧ J' = J0) c5 ⟨rfl, rfl, rfl⟩
  unfold wp_F_supportOf at h
  refine lv_iconst (v := 0) hx hb dF_supportOf_0 (by decide) ?_
  refine lv_istore_n (lv' := [(3, .int 0), (0, .ref (ad 0)), (1, .ref (ad j1)), (2, .int a2)]) hx hb dF_supportOf_1 rfl hl (by decide) rfl (fun ls hl => ?_)
  refine lv_iconst (v := 0) hx hb dF_supportOf_2 (by decide) ?_
  refine lv_istore (lv' := [(4, .int 0), (3, .int 0), (0, .ref (ad 0)), (1, .ref (ad j1)), (2, .int a2)]) hx hb dF_supportOf_3 hl (by decide) rfl (fun ls hl => ?_)
  rw [hK5] at h
  exact h _ _ _ hP hS (lv_sub hl [2, 3, 4, 1, 0] rfl)
def wp_F_heaviestChild_10 (K10 : mI → mJ → Int32 → Int32 → Int32 → Prop) (R : Int32 → mI → mJ → Prop) (I : mI) (J : mJ) (j1 : Nat) (a2 : Int32) (x3 : Int32) (x4 : Int32) (x5 : Int32) : Prop :=
  (((I 0 5) ≤ x5 → R x3 I J) ∧ (¬ ((I 0 5) ≤ x5) → (vp_in x5 60 ∧ ((¬ ((I (3 + 6 * x5.toNatClampNeg) 0) = a2) → K10 I J x3 x4 (x5 + 1)) ∧ ((I (3 + 6 * x5.toNatClampNeg) 0) = a2 → (((fN_isKnown I J j1 x5) = 0 → K10 I J x3 x4 (x5 + 1)) ∧ (¬ ((fN_isKnown I J j1 x5) = 0) → (∃ (S3 : mI), (pF_supportOf S3 I J j1 x5 ∧ (((fF_supportOf S3 I J j1 x5) ≤ x4 → K10 I J x3 x4 (x5 + 1)) ∧ (¬ ((fF_supportOf S3 I J j1 x5) ≤ x4) → K10 I J x5 (fF_supportOf S3 I J j1 x5) (x5 + 1))))))))))))
def wp_F_heaviestChild (K10 : mI → mJ → Int32 → Int32 → Int32 → Prop) (R : Int32 → mI → mJ → Prop) (I0 : mI) (J0 : mJ) (j1 : Nat) (a2 : Int32) : Prop :=
  K10 I0 J0 (-1) (-1) (a2 + 1)
theorem P_F_heaviestChild (S : mI) (I0 : mI) (J0 : mJ) (j1 : Nat) (a2 : Int32) (hk1 : xk j1 = 10) (hp : pF_heaviestChild S I0 J0 j1 a2) (K10 : mI → mJ → Int32 → Int32 → Int32 → Prop) (R : Int32 → mI → mJ → Prop) (c10 : ∀ (I : mI) (J : mJ) (x3 : Int32) (x4 : Int32) (x5 : Int32), wp_F_heaviestChild_10 K10 R I J j1 a2 x3 x4 x5 → K10 I J x3 x4 x5) (hR : R (fF_heaviestChild S I0 J0 j1 a2) I0 J0) : wp_F_heaviestChild K10 R I0 J0 j1 a2 := by
  obtain ⟨hX, ⟨n, hn, rfl⟩, ⟨a, ha, rfl⟩⟩ := hp
  have hb := hX.1.b
  unfold fF_heaviestChild zKid at hR
  rw [cN_nI (by omega), iN_n] at hR
  have key : ∀ m c, c + m = zBc S → a < c → K10 I0 J0 (oI (zKf S n a c).1) (zKf S n a c).2 (nI c) := by
    intro m
    induction m with
    | zero =>
      intro c hc hac
      have hc : c = zBc S := by omega
      subst hc
      apply c10
      unfold wp_F_heaviestChild_10
      rw [hX.bc]
      exact ⟨fun _ => hR, fun h => absurd (nI_le (Nat.le_refl _) (by omega)) h⟩
    | succ m ih =>
      intro c hc hac
      have hi := ih (c + 1) (by omega) (by omega)
      have hcc : c < zBc S := by omega
      apply c10
      unfold wp_F_heaviestChild_10 fN_isKnown
      rw [hX.bc, show (nI c).toNatClampNeg = c from nI_clamp (by omega), nI_1, hX.pa hcc, fLit_bz _ (by omega), hX.kn hn (by omega)]
      have no : ¬ (a < c ∧ zKn S n c = true ∧ S 2 c = nI a ∧ (zKf S n a c).2 < zSup S n c) → K10 I0 J0 (oI (zKf S n a c).1) (zKf S n a c).2 (nI (c + 1)) := fun z => by
        rw [show zKf S n a (c + 1) = zKf S n a c from by simp only [zKf]; rw [if_neg z]] at hi
        exact hi
      refine ⟨fun h => absurd h (nI_ge (by omega) (by omega)), fun _ => ⟨vp_in_nI (by omega) (by omega), fun h => no (fun z => h z.2.2.1), fun h1 => ⟨fun h => no (fun z => by rw [bz_0.mp h] at z; exact absurd z.2.1 (by decide)), fun h2 => ⟨S, ⟨hX, ⟨n, hn, rfl⟩, ⟨c, hcc, rfl⟩⟩, ?_⟩⟩⟩⟩
      unfold fF_supportOf
      rw [cN_nI (n := c) (by omega), iN_n]
      refine ⟨fun h => no (fun z => Int32.not_lt.mpr h z.2.2.2), fun h => ?_⟩
      rw [show zKf S n a (c + 1) = (some c, zSup S n c) from by simp only [zKf]; rw [if_pos ⟨hac, bz_n0.mp h2, h1, Int32.not_le.mp h⟩]] at hi
      exact hi
  have h0 := key (zBc S - (a + 1)) (a + 1) (by omega) (by omega)
  rw [zKf_0 S n a (a + 1) (Nat.le_refl _)] at h0
  unfold wp_F_heaviestChild
  rw [nI_1]
  exact h0
set_option maxHeartbeats 4000000 in
set_option maxRecDepth 100000 in
theorem C_F_heaviestChild (l : Launch) (D : va_G) (ca : Nat → Nat) (ad : Nat → Nat) (S : mI) (I0 : mI) (J0 : mJ) (j1 : Nat) (a2 : Int32) (hk1 : xk j1 = 10) (hp : pF_heaviestChild S I0 J0 j1 a2) : Met l yF_heaviestChild wF_heaviestChild ({ frames := 3, cells := 0, slots := 0, locals := 69 } : Room) (va_Pc [.ref (ad 0), .ref (ad j1), .int a2] (mPre D vwCl (xty ca) 459 ad (xmk ca ad) nL I0 J0)) (mQi D vwCl 459 ad (xmk ca ad) (fun r I' J' => r = fF_heaviestChild S I0 J0 j1 a2 ∧ I' = I0 ∧ J' = J0)) 0 0 (mA 459 ad) := by
  refine Met.ofW (cc := cF_heaviestChild) (maxL := 7) (ret := (some .int)) (by decide) rfl ?_
  intro p e s m args below meth c s₁ B hml hv
  obtain ⟨rfl, hP, hK, hD0, hN⟩ := hv
  have hx := B.exec
  have hb := B.bytes
  have hr := B.returns
  have htb : ∀ w ∈ wb, w.before _ s = true := fun w h => atoms_spec (ws := wF_heaviestChild) B.pre w (List.mem_cons_of_mem _ h)
  have hown : s.vm.findClass RF = some m.cls := findClass_of_methodNamed B.named
  have hlk := B.notSynchronized
  have hD := mw_Dm hD0
  have hS : va_S (mA 459 ad) s.heap s.heap [] := va_S.rf
  have hl := lv_entry ([.ref (ad 0), .ref (ad j1), .int a2]) (n := 7) (Nat.le_of_ble_eq_true rfl)
  rw [lg_entry_eq]
  generalize (lg_sl ([.ref (ad 0), .ref (ad j1), .int a2]) ++ List.replicate (7 - (lg_sl ([.ref (ad 0), .ref (ad j1), .int a2])).length) Slot.unset).toArray = ls at hl ⊢
  have hl : lv_has ls 7 [(0, .ref (ad 0)), (1, .ref (ad j1)), (2, .int a2)] := hl
  obtain ⟨K10, hK10⟩ : ∃ K : mI → mJ → Int32 → Int32 → Int32 → Prop, K = (fun I J x3 x4 x5 => ∀ (H : Heap) (locs : List Loc) (ls : Array Slot), va_P D vwCl (mw 459 ad (xmk ca ad) I J) H → va_S (mA 459 ad) s.heap H locs → lv_has ls 7 [(0, .ref (ad 0)), (1, .ref (ad j1)), (2, .int a2), (3, .int x3), (4, .int x4), (5, .int x5)] → W p l e (headSpec wF_heaviestChild ({ frames := 3, cells := 0, slots := 0, locals := 69 } : Room)).room s m (([.ref (ad 0), .ref (ad j1), .int a2] : List Value).toArray) below meth c H locs 0 0 (MQ below (mQi D vwCl 459 ad (xmk ca ad) (fun r I' J' => r = fF_heaviestChild S I0 J0 j1 a2 ∧ I' = I0 ∧ J' = J0)) (([.ref (ad 0), .ref (ad j1), .int a2] : List Value).toArray) s 0 0 (mA 459 ad)) (F0 m 10 ls [])) := ⟨_, rfl⟩
  have c10 : ∀ (I : mI) (J : mJ) (x3 : Int32) (x4 : Int32) (x5 : Int32), wp_F_heaviestChild_10 K10 (fun r I' J' => r = fF_heaviestChild S I0 J0 j1 a2 ∧ I' = I0 ∧ J' = J0) I J j1 a2 x3 x4 x5 → K10 I J x3 x4 x5 := by
    intro I J x3 x4 x5 h
    rw [hK10]
    intro H locs ls hP hS hl
    unfold wp_F_heaviestChild_10 at h
    refine lv_iload hx hb dF_heaviestChild_10 (lv_at hl 5 rfl) ?_
    refine lv_aload_n hx hb dF_heaviestChild_12 rfl (lv_at hl 0 rfl) ?_
    refine va_get (D := D) (ci := 5) (v := .int (I 0 5)) (C := RF) (T := TF) (N := 11) hx hb htb inF hown hK hP 0 (mw_at (xk_lt (show xk 0 = 0 from rfl) (by decide)) (xm_F (show xk 0 = 0 from rfl) _ _)) rfl 5 (by decide) (htb _ k1_167) (fun _ h9 => h9) rfl dF_heaviestChild_13 ?_
    refine lv_icmp_ge (tgt := 71) hx hb dF_heaviestChild_16 (by decide) (fun hc => ?_) (fun hc => ?_)
    · have h := h.1 hc
      refine lv_iload_n hx hb dF_heaviestChild_71 rfl (lv_at hl 3 rfl) ?_
      exact me_i hx hb hr hlk hP hS h dF_heaviestChild_72
    · have h := h.2 hc
      refine lv_aload_n hx hb dF_heaviestChild_19 rfl (lv_at hl 0 rfl) ?_
      refine va_get (D := D) (ci := 5) (v := .ref (ad 2)) (C := RF) (T := TF) (N := 11) hx hb htb inF hown hK hP 0 (mw_at (xk_lt (show xk 0 = 0 from rfl) (by decide)) (xm_F (show xk 0 = 0 from rfl) _ _)) rfl 4 (by decide) (htb _ k1_166) (fun _ h9 => h9) rfl dF_heaviestChild_20 ?_
      refine lv_iload hx hb dF_heaviestChild_23 (lv_at hl 5 rfl) ?_
      obtain ⟨hn1, h⟩ := h
      refine mr_aald hx hb hK hP 2 2 (xk_lt (show xk 2 = 2 from rfl) (by decide)) (xm_BA (show xk 2 = 2 from rfl) _ _) rfl hn1 dF_heaviestChild_25 ?_
      refine va_get (D := D) (ci := 0) (v := .int (I (3 + 6 * x5.toNatClampNeg) 0)) (C := RB) (T := TB) (N := 6) hx hb htb inB hown hK hP (3 + 6 * x5.toNatClampNeg) (mw_at (xk_lt (xk_B hn1) (by decide)) (xm_B (xk_B hn1) _ _)) rfl 0 (by decide) (htb _ k1_84) (fun _ h9 => h9) rfl dF_heaviestChild_26 ?_
      refine lv_iload_n hx hb dF_heaviestChild_29 rfl (lv_at hl 2 rfl) ?_
      refine lv_icmp_ne (tgt := 65) hx hb dF_heaviestChild_30 (by decide) (fun hc => ?_) (fun hc => ?_)
      · have h := h.1 hc
        refine lv_iinc (k := 5) (v := x5 + 1) (lv' := [(5, .int (x5 + 1)), (0, .ref (ad 0)), (1, .ref (ad j1)), (2, .int a2), (3, .int x3), (4, .int x4)]) hx hb dF_heaviestChild_65 hl rfl (by rfl) (by decide) rfl (fun ls hl => ?_)
        refine lv_goto (tgt := 10) hx hb dF_heaviestChild_68 (by decide) ?_
        rw [hK10] at h
        exact h _ _ _ hP hS (lv_sub hl [1, 2, 3, 4, 5, 0] rfl)
      · have h := h.2 hc
        refine lv_aload_n hx hb dF_heaviestChild_33 rfl (lv_at hl 1 rfl) ?_
        refine lv_iload hx hb dF_heaviestChild_34 (lv_at hl 5 rfl) ?_
        refine mc_r (va_runV (As := [.int x5]) (rest := []) ⟨hx, hb, hml, hown, htb⟩ (C_N_isKnown l D ca ad I J j1 x5 hk1) (cwV 1 htb (gd_v k2_98 k2_99 k2_100 k1_7 k2_101) rfl rfl rfl (by decide +kernel) ⟨Nat.le_of_ble_eq_true rfl, Nat.le_of_ble_eq_true rfl⟩) (mPre_V hK hP hD hN rfl (mw_at (xk_lt hk1 (by decide)) (xm_N hk1 _ _))) rfl rfl hl.1 rfl (lv_room (Nat.le_of_ble_eq_true rfl)) dF_heaviestChild_36 ⟨Nat.le_of_ble_eq_true rfl, Nat.le_of_ble_eq_true rfl⟩) hS (fun H locs hP hS => ?_)
        refine lv_if_eq (tgt := 65) hx hb dF_heaviestChild_39 (by decide) (fun hc => ?_) (fun hc => ?_)
        · have h := h.1 hc
          refine lv_iinc (k := 5) (v := x5 + 1) (lv' := [(5, .int (x5 + 1)), (0, .ref (ad 0)), (1, .ref (ad j1)), (2, .int a2), (3, .int x3), (4, .int x4)]) hx hb dF_heaviestChild_65 hl rfl (by rfl) (by decide) rfl (fun ls hl => ?_)
          refine lv_goto (tgt := 10) hx hb dF_heaviestChild_68 (by decide) ?_
          rw [hK10] at h
          exact h _ _ _ hP hS (lv_sub hl [1, 2, 3, 4, 5, 0] rfl)
        · have h := h.2 hc
          refine lv_aload_n hx hb dF_heaviestChild_42 rfl (lv_at hl 0 rfl) ?_
          refine lv_aload_n hx hb dF_heaviestChild_43 rfl (lv_at hl 1 rfl) ?_
          refine lv_iload hx hb dF_heaviestChild_44 (lv_at hl 5 rfl) ?_
          obtain ⟨S3, h⟩ := h
          obtain ⟨hp4, h⟩ := h
          refine mc_r (va_runV (As := [.ref (ad j1), .int x5]) (rest := []) ⟨hx, hb, hml, hown, htb⟩ (C_F_supportOf l D ca ad S3 I J j1 x5 hk1 hp4) (cwV 2 htb (gd_v k2_135 k2_137 ks16 k1_1 k2_138) rfl rfl rfl (by decide +kernel) ⟨Nat.le_of_ble_eq_true rfl, Nat.le_of_ble_eq_true rfl⟩) (mPre_V hK hP hD hN rfl (mw_at (xk_lt (show xk 0 = 0 from rfl) (by decide)) (xm_F (show xk 0 = 0 from rfl) _ _))) rfl rfl hl.1 rfl (lv_room (Nat.le_of_ble_eq_true rfl)) dF_heaviestChild_46 ⟨Nat.le_of_ble_eq_true rfl, Nat.le_of_ble_eq_true rfl⟩) hS (fun H locs hP hS => ?_)
          refine lv_istore (lv' := [(6, .int (fF_supportOf S3 I J j1 x5)), (0, .ref (ad 0)), (1, .ref (ad j1)), (2, .int a2), (3, .int x3), (4, .int x4), (5, .int x5)]) hx hb dF_heaviestChild_49 hl (by decide) rfl (fun ls hl => ?_)
          refine lv_iload hx hb dF_heaviestChild_51 (lv_at hl 0 rfl) ?_
          refine lv_iload hx hb dF_heaviestChild_53 (lv_at hl 5 rfl) ?_
          refine lv_icmp_le (tgt := 65) hx hb dF_heaviestChild_55 (by decide) (fun hc => ?_) (fun hc => ?_)
          · have h := h.1 hc
            refine lv_iinc (k := 6) (v := x5 + 1) (lv' := [(5, .int (x5 + 1)), (6, .int (fF_supportOf S3 I J j1 x5)), (0, .ref (ad 0)), (1, .ref (ad j1)), (2, .int a2), (3, .int x3), (4, .int x4)]) hx hb dF_heaviestChild_65 hl rfl (by rfl) (by decide) rfl (fun ls hl => ?_)
            refine lv_goto (tgt := 10) hx hb dF_heaviestChild_68 (by decide) ?_
            rw [hK10] at h
            exact h _ _ _ hP hS (lv_sub hl [2, 3, 4, 5, 6, 0] rfl)
          · have h := h.2 hc
            refine lv_iload hx hb dF_heaviestChild_58 (lv_at hl 6 rfl) ?_
            refine lv_istore_n (lv' := [(3, .int x5), (6, .int (fF_supportOf S3 I J j1 x5)), (0, .ref (ad 0)), (1, .ref (ad j1)), (2, .int a2), (4, .int x4), (5, .int x5)]) hx hb dF_heaviestChild_60 rfl hl (by decide) rfl (fun ls hl => ?_)
            refine lv_iload hx hb dF_heaviestChild_61 (lv_at hl 1 rfl) ?_
            refine lv_istore (lv' := [(4, .int (fF_supportOf S3 I J j1 x5)), (3, .int x5), (6, .int (fF_supportOf S3 I J j1 x5)), (0, .ref (ad 0)), (1, .ref (ad j1)), (2, .int a2), (5, .int x5)]) hx hb dF_heaviestChild_63 hl (by decide) rfl (fun ls hl => ?_)
            refine lv_iinc (k := 6) (v := x5 + 1) (lv' := [(5, .int (x5 + 1)), (4, .int (fF_supportOf S3 I J j1 x5)), (3, .int x5), (6, .int (fF_supportOf S3 I J j1 x5)), (0, .ref (ad 0)), (1, .ref (ad j1)), (2, .int a2)]) hx hb dF_heaviestChild_65 hl rfl (by rfl) (by decide) rfl (fun ls hl => ?_)
            refine lv_goto (tgt := 10) hx hb dF_heaviestChild_68 (by decide) ?_
            rw [hK10] at h
            exact h _ _ _ hP hS (lv_sub hl [4, 5, 6, 2, 1, 0] rfl)
  have h := P_F_heaviestChild S I0 J0 j1 a2 hk1 hp K10 (fun r I' J' => r = fF_heaviestChild S I0 J0 j1 a2 ∧ I' = I0 ∧ J' = J0) c10 ⟨rfl, rfl, rfl⟩
  unfold wp_F_heaviestChild at h
  refine lv_iconst (v := (-1)) hx hb dF_heaviestChild_0 (by decide) ?_
  refine lv_istore_n (lv' := [(3, .int (-1)), (0, .ref (ad 0)), (1, .ref (ad j1)), (2, .int a2)]) hx hb dF_heaviestChild_1 rfl hl (by decide) rfl (fun ls hl => ?_)
  refine lv_iconst (v := (-1)) hx hb dF_heaviestChild_2 (by decide) ?_
  refine lv_istore (lv' := [(4, .int (-1)), (3, .int (-1)), (0, .ref (ad 0)), (1, .ref (ad j1)), (2, .int a2)]) hx hb dF_heaviestChild_3 hl (by decide) rfl (fun ls hl => ?_)
  refine lv_iload_n hx hb dF_heaviestChild_5 rfl (lv_at hl 4 rfl) ?_
  refine lv_iconst (v := 1) hx hb dF_heaviestChild_6 (by decide) ?_
  refine lv_iadd hx hb dF_heaviestChild_7 ?_
  refine lv_istore (lv' := [(5, .int (a2 + 1)), (4, .int (-1)), (3, .int (-1)), (0, .ref (ad 0)), (1, .ref (ad j1)), (2, .int a2)]) hx hb dF_heaviestChild_8 hl (by decide) rfl (fun ls hl => ?_)
  rw [hK10] at h
  exact h _ _ _ hP hS (lv_sub hl [3, 4, 5, 2, 1, 0] rfl)
