def fM_outside (_ : mI) (_ : mJ) (a lo hi : Int32) : Int32 := if a < lo then 1 else if a ≤ hi then 0 else 1
def fM_isBlock (I : mI) (_ : mJ) (b : Int32) : Int32 := fIn b (I 0 4)
def fM_isVote (I : mI) (_ : mJ) (b : Int32) : Int32 := fIn b (I 0 11)
def fM_isValidator (I : mI) (_ : mJ) (b : Int32) : Int32 := fIn b (I 0 0)
def fM_isNode (_ : mI) (_ : mJ) (b : Int32) : Int32 := if b < 0 then 0 else if 2 < b then 0 else 1
def pM_descends (S I : mI) (_ : mJ) (b c : Int32) : Prop := YR S I ∧ iB S b ∧ ∃ k, k < 60 ∧ c = nI k
def fM_descends (S _I : mI) (_ : mJ) (b c : Int32) : Int32 := bz (zD S (cN b) (cN c))
def pM_checkpointBlock (S I : mI) (_ : mJ) (b e : Int32) : Prop := YR S I ∧ iB S b ∧ ∃ k, k ≤ 240 ∧ e = nI k
def fM_checkpointBlock (S _I : mI) (_ : mJ) (b e : Int32) : Int32 := nI (zC S (cN b) (cN e))
def pM_clash (S I : mI) (_ : mJ) (i j : Int32) : Prop := YR S I ∧ iV S i ∧ iV S j
def fM_clash (S _I : mI) (_ : mJ) (i j : Int32) : Int32 := bz (zCl S (cN i) (cN j))
def qM_forget (I : mI) (J : mJ) (I' : mI) (J' : mJ) : Prop := J' = J ∧ (∀ a, a ≠ 20 → a ≠ 21 → I' a = I a) ∧ ∀ v, v < 7 → I' 20 v = 0 ∧ I' 21 v = 0
def qM_origin (I : mI) (J : mJ) (I' : mI) (J' : mJ) : Prop := J' = J ∧ mF I I' ∧ mE g0 I'
def pM_advance (S I : mI) (_ : mJ) (a : Int32) : Prop := YR S I ∧ (∃ s, s ≤ 240 ∧ a = nI s) ∧ ∃ q, mE q I ∧ gW (zNv S) (zBc S) q
def qM_advance (S I : mI) (J : mJ) (a : Int32) (I' : mI) (J' : mJ) : Prop := J' = J ∧ mF I I' ∧ ∀ q, mE q I → gW (zNv S) (zBc S) q → mE (gTo (zNv S) q (cN a / zLn S)) I'
def pM_votable (S I : mI) (_ : mJ) (i p s : Int32) : Prop := YR S I ∧ iV S i ∧ iB S p ∧ (∃ k, k ≤ 240 ∧ s = nI k) ∧ ∃ q, mE q I ∧ gW (zNv S) (zBc S) q
def qM_votable (S I : mI) (J : mJ) (i p s : Int32) (r : Int32) (I' : mI) (J' : mJ) : Prop := J' = J ∧ I' = I ∧ (r = 0 ∨ r = 1) ∧ ∀ q, mE q I → gW (zNv S) (zBc S) q → (gOk S q (cN p) (cN s) (cN i) → r = 1) ∧ (¬ gOk S q (cN p) (cN s) (cN i) → r = 0)
def pM_weightOf (S I : mI) (_ : mJ) (_ : Int32) : Prop := YR S I
def fM_weightOf (S I : mI) (_ : mJ) (a : Int32) : Int32 := zSum S (fun v => !decide ((if a = 0 then I 21 v else I 20 v) = 0)) (zNv S)
def pM_count (S I : mI) (_ : mJ) (i p : Int32) : Prop := YR S I ∧ iV S i ∧ (∃ k, k < 7 ∧ p = nI k) ∧ ∃ q, mE q I ∧ gW (zNv S) (zBc S) q
def qM_count (S I : mI) (J : mJ) (i p : Int32) (I' : mI) (J' : mJ) : Prop := J' = J ∧ mF I I' ∧ ∀ q s, mE q I → gW (zNv S) (zBc S) q → s % zNv S = cN p → mE (gCnt S q s (cN i)) I'
def pM_item (S I : mI) (_ : mJ) (x p s : Int32) : Prop := YR S I ∧ wIt S x ∧ iB S p ∧ (∃ k, k ≤ 240 ∧ s = nI k) ∧ ∃ q, mE q I ∧ gW (zNv S) (zBc S) q
def qM_item (S I : mI) (J : mJ) (x p s : Int32) (r : Int32) (I' : mI) (J' : mJ) : Prop := J' = J ∧ mF I I' ∧ (r = 0 ∨ r = 1) ∧ ∀ q, mE q I → gW (zNv S) (zBc S) q → mE (gItem S q (cN p) (cN s) (cN x)) I' ∧ (gFit S q (cN p) (cN s) (cN x) → r = 1) ∧ (¬ gFit S q (cN p) (cN s) (cN x) → r = 0)
def pM_make (S I : mI) (_ : mJ) (b : Int32) : Prop := YR S I ∧ iB S b
def qM_make (S I : mI) (J : mJ) (b : Int32) (I' : mI) (J' : mJ) : Prop := J' = J ∧ mG I I' ∧ mE (gS S (cN b)) I'
theorem bz_nn {x : Int32} {b : Bool} (h : x = bz b) : (!decide (x = 0)) = b := by subst h; cases b <;> rfl

def wp_M_outside (R : Int32 → mI → mJ → Prop) (I0 : mI) (J0 : mJ) (a0 : Int32) (a1 : Int32) (a2 : Int32) : Prop :=
  ((a0 < a1 → R 1 I0 J0) ∧ (¬ (a0 < a1) → ((a0 ≤ a2 → R 0 I0 J0) ∧ (¬ (a0 ≤ a2) → R 1 I0 J0))))
theorem P_M_outside (I0 : mI) (J0 : mJ) (a0 : Int32) (a1 : Int32) (a2 : Int32)    (R : Int32 → mI → mJ → Prop)  (hR : R (fM_outside I0 J0 a0 a1 a2) I0 J0) : wp_M_outside R I0 J0 a0 a1 a2 := by
  unfold wp_M_outside
  unfold fM_outside at hR
  (repeat' split at hR) <;> (repeat' (first | exact hR | apply And.intro | (intro hh; try contradiction)))
set_option maxHeartbeats 4000000 in
set_option maxRecDepth 100000 in
theorem C_M_outside (l : Launch) (D : va_G) (ca : Nat → Nat) (ad : Nat → Nat) (I0 : mI) (J0 : mJ) (a0 : Int32) (a1 : Int32) (a2 : Int32)   : Met l yM_outside wM_outside ({ frames := 0, cells := 0, slots := 0, locals := 0 } : Room) (va_Pc [.int a0, .int a1, .int a2] (mPre D vwCl (xty ca) 23 ad (ymk ca ad) nL I0 J0)) (mQi D vwCl 23 ad (ymk ca ad) (fun r I' J' => r = fM_outside I0 J0 a0 a1 a2 ∧ I' = I0 ∧ J' = J0)) 0 0 (mA 23 ad) := by
  refine Met.ofW (cc := cM_outside) (maxL := 3) (ret := (some .boolean)) (by decide) rfl ?_
  intro p e s m args below meth c s₁ B hml hv
  obtain ⟨rfl, hP, hK, hD0, hN⟩ := hv
  have hx := B.exec
  have hb := B.bytes
  have hr := B.returns
  have htb : ∀ w ∈ wb, w.before _ s = true := fun w h => atoms_spec (ws := wM_outside) B.pre w (List.mem_cons_of_mem _ h)
  have hown : s.vm.findClass RM = some m.cls := findClass_of_methodNamed B.named
  have hlk := B.notSynchronized
  have hD := mw_Dm hD0
  have hS : va_S (mA 23 ad) s.heap s.heap [] := va_S.rf
  have hl := lv_entry ([.int a0, .int a1, .int a2]) (n := 3) (Nat.le_of_ble_eq_true rfl)
  rw [lg_entry_eq]
  generalize (lg_sl ([.int a0, .int a1, .int a2]) ++ List.replicate (3 - (lg_sl ([.int a0, .int a1, .int a2])).length) Slot.unset).toArray = ls at hl ⊢
  have hl : lv_has ls 3 [(0, .int a0), (1, .int a1), (2, .int a2)] := hl
  have h := P_M_outside I0 J0 a0 a1 a2    (fun r I' J' => r = fM_outside I0 J0 a0 a1 a2 ∧ I' = I0 ∧ J' = J0)  ⟨rfl, rfl, rfl⟩
  unfold wp_M_outside at h
  refine lv_iload_n hx hb dM_outside_0 rfl (lv_at hl 0 rfl) ?_
  refine lv_iload_n hx hb dM_outside_1 rfl (lv_at hl 1 rfl) ?_
  refine lv_icmp_lt (tgt := 10) hx hb dM_outside_2 (by decide) (fun hc => ?_) (fun hc => ?_)
  · have h := h.1 hc
    refine lv_iconst (v := 1) hx hb dM_outside_10 (by decide) ?_
    refine lv_goto (tgt := 15) hx hb dM_outside_11 (by decide) ?_
    exact me_z hx hb hr hlk hP hS rfl h dM_outside_15
  · have h := h.2 hc
    refine lv_iload_n hx hb dM_outside_5 rfl (lv_at hl 0 rfl) ?_
    refine lv_iload_n hx hb dM_outside_6 rfl (lv_at hl 2 rfl) ?_
    refine lv_icmp_le (tgt := 14) hx hb dM_outside_7 (by decide) (fun hc => ?_) (fun hc => ?_)
    · have h := h.1 hc
      refine lv_iconst (v := 0) hx hb dM_outside_14 (by decide) ?_
      exact me_z hx hb hr hlk hP hS rfl h dM_outside_15
    · have h := h.2 hc
      refine lv_iconst (v := 1) hx hb dM_outside_10 (by decide) ?_
      refine lv_goto (tgt := 15) hx hb dM_outside_11 (by decide) ?_
      exact me_z hx hb hr hlk hP hS rfl h dM_outside_15
def wp_M_isBlock (R : Int32 → mI → mJ → Prop) (I0 : mI) (J0 : mJ) (a1 : Int32) : Prop :=
  ((a1 < 0 → R 0 I0 J0) ∧ (¬ (a1 < 0) → (((I0 0 4) ≤ a1 → R 0 I0 J0) ∧ (¬ ((I0 0 4) ≤ a1) → R 1 I0 J0))))
theorem P_M_isBlock (I0 : mI) (J0 : mJ) (a1 : Int32)    (R : Int32 → mI → mJ → Prop)  (hR : R (fM_isBlock I0 J0 a1) I0 J0) : wp_M_isBlock R I0 J0 a1 := by
  unfold wp_M_isBlock
  unfold fM_isBlock fIn at hR
  (repeat' split at hR) <;> (repeat' (first | exact hR | apply And.intro | (intro hh; try contradiction)))
set_option maxHeartbeats 4000000 in
set_option maxRecDepth 100000 in
theorem C_M_isBlock (l : Launch) (D : va_G) (ca : Nat → Nat) (ad : Nat → Nat) (I0 : mI) (J0 : mJ) (a1 : Int32)   : Met l yM_isBlock wM_isBlock ({ frames := 0, cells := 0, slots := 0, locals := 0 } : Room) (va_Pc [.ref (ad 0), .int a1] (mPre D vwCl (xty ca) 23 ad (ymk ca ad) nL I0 J0)) (mQi D vwCl 23 ad (ymk ca ad) (fun r I' J' => r = fM_isBlock I0 J0 a1 ∧ I' = I0 ∧ J' = J0)) 0 0 (mA 23 ad) := by
  refine Met.ofW (cc := cM_isBlock) (maxL := 2) (ret := (some .boolean)) (by decide) rfl ?_
  intro p e s m args below meth c s₁ B hml hv
  obtain ⟨rfl, hP, hK, hD0, hN⟩ := hv
  have hx := B.exec
  have hb := B.bytes
  have hr := B.returns
  have htb : ∀ w ∈ wb, w.before _ s = true := fun w h => atoms_spec (ws := wM_isBlock) B.pre w (List.mem_cons_of_mem _ h)
  have hown : s.vm.findClass RM = some m.cls := findClass_of_methodNamed B.named
  have hlk := B.notSynchronized
  have hD := mw_Dm hD0
  have hS : va_S (mA 23 ad) s.heap s.heap [] := va_S.rf
  have hl := lv_entry ([.ref (ad 0), .int a1]) (n := 2) (Nat.le_of_ble_eq_true rfl)
  rw [lg_entry_eq]
  generalize (lg_sl ([.ref (ad 0), .int a1]) ++ List.replicate (2 - (lg_sl ([.ref (ad 0), .int a1])).length) Slot.unset).toArray = ls at hl ⊢
  have hl : lv_has ls 2 [(0, .ref (ad 0)), (1, .int a1)] := hl
  have h := P_M_isBlock I0 J0 a1    (fun r I' J' => r = fM_isBlock I0 J0 a1 ∧ I' = I0 ∧ J' = J0)  ⟨rfl, rfl, rfl⟩
  unfold wp_M_isBlock at h
  refine lv_iload_n hx hb dM_isBlock_0 rfl (lv_at hl 1 rfl) ?_
  refine lv_if_lt (tgt := 16) hx hb dM_isBlock_1 (by decide) (fun hc => ?_) (fun hc => ?_)
  · have h := h.1 hc
    refine lv_iconst (v := 0) hx hb dM_isBlock_16 (by decide) ?_
    exact me_z hx hb hr hlk hP hS rfl h dM_isBlock_17
  · have h := h.2 hc
    refine lv_iload_n hx hb dM_isBlock_4 rfl (lv_at hl 1 rfl) ?_
    refine lv_aload_n hx hb dM_isBlock_5 rfl (lv_at hl 0 rfl) ?_
    refine va_get (D := D) (ci := 6) (v := .int (I0 0 4)) (C := RM) (T := TM) (N := 33) hx hb htb inM hown hK hP 0 (mw_at (by decide) (ym_0 _ _ _ _)) rfl 4 (by decide) (htb _ k2_176) (fun _ h9 => h9) rfl dM_isBlock_6 ?_
    refine lv_icmp_ge (tgt := 16) hx hb dM_isBlock_9 (by decide) (fun hc => ?_) (fun hc => ?_)
    · have h := h.1 hc
      refine lv_iconst (v := 0) hx hb dM_isBlock_16 (by decide) ?_
      exact me_z hx hb hr hlk hP hS rfl h dM_isBlock_17
    · have h := h.2 hc
      refine lv_iconst (v := 1) hx hb dM_isBlock_12 (by decide) ?_
      refine lv_goto (tgt := 17) hx hb dM_isBlock_13 (by decide) ?_
      exact me_z hx hb hr hlk hP hS rfl h dM_isBlock_17
def wp_M_isVote (R : Int32 → mI → mJ → Prop) (I0 : mI) (J0 : mJ) (a1 : Int32) : Prop :=
  ((a1 < 0 → R 0 I0 J0) ∧ (¬ (a1 < 0) → (((I0 0 11) ≤ a1 → R 0 I0 J0) ∧ (¬ ((I0 0 11) ≤ a1) → R 1 I0 J0))))
theorem P_M_isVote (I0 : mI) (J0 : mJ) (a1 : Int32)    (R : Int32 → mI → mJ → Prop)  (hR : R (fM_isVote I0 J0 a1) I0 J0) : wp_M_isVote R I0 J0 a1 := by
  unfold wp_M_isVote
  unfold fM_isVote fIn at hR
  (repeat' split at hR) <;> (repeat' (first | exact hR | apply And.intro | (intro hh; try contradiction)))
set_option maxHeartbeats 4000000 in
set_option maxRecDepth 100000 in
theorem C_M_isVote (l : Launch) (D : va_G) (ca : Nat → Nat) (ad : Nat → Nat) (I0 : mI) (J0 : mJ) (a1 : Int32)   : Met l yM_isVote wM_isVote ({ frames := 0, cells := 0, slots := 0, locals := 0 } : Room) (va_Pc [.ref (ad 0), .int a1] (mPre D vwCl (xty ca) 23 ad (ymk ca ad) nL I0 J0)) (mQi D vwCl 23 ad (ymk ca ad) (fun r I' J' => r = fM_isVote I0 J0 a1 ∧ I' = I0 ∧ J' = J0)) 0 0 (mA 23 ad) := by
  refine Met.ofW (cc := cM_isVote) (maxL := 2) (ret := (some .boolean)) (by decide) rfl ?_
  intro p e s m args below meth c s₁ B hml hv
  obtain ⟨rfl, hP, hK, hD0, hN⟩ := hv
  have hx := B.exec
  have hb := B.bytes
  have hr := B.returns
  have htb : ∀ w ∈ wb, w.before _ s = true := fun w h => atoms_spec (ws := wM_isVote) B.pre w (List.mem_cons_of_mem _ h)
  have hown : s.vm.findClass RM = some m.cls := findClass_of_methodNamed B.named
  have hlk := B.notSynchronized
  have hD := mw_Dm hD0
  have hS : va_S (mA 23 ad) s.heap s.heap [] := va_S.rf
  have hl := lv_entry ([.ref (ad 0), .int a1]) (n := 2) (Nat.le_of_ble_eq_true rfl)
  rw [lg_entry_eq]
  generalize (lg_sl ([.ref (ad 0), .int a1]) ++ List.replicate (2 - (lg_sl ([.ref (ad 0), .int a1])).length) Slot.unset).toArray = ls at hl ⊢
  have hl : lv_has ls 2 [(0, .ref (ad 0)), (1, .int a1)] := hl
  have h := P_M_isVote I0 J0 a1    (fun r I' J' => r = fM_isVote I0 J0 a1 ∧ I' = I0 ∧ J' = J0)  ⟨rfl, rfl, rfl⟩
  unfold wp_M_isVote at h
  refine lv_iload_n hx hb dM_isVote_0 rfl (lv_at hl 1 rfl) ?_
  refine lv_if_lt (tgt := 16) hx hb dM_isVote_1 (by decide) (fun hc => ?_) (fun hc => ?_)
  · have h := h.1 hc
    refine lv_iconst (v := 0) hx hb dM_isVote_16 (by decide) ?_
    exact me_z hx hb hr hlk hP hS rfl h dM_isVote_17
  · have h := h.2 hc
    refine lv_iload_n hx hb dM_isVote_4 rfl (lv_at hl 1 rfl) ?_
    refine lv_aload_n hx hb dM_isVote_5 rfl (lv_at hl 0 rfl) ?_
    refine va_get (D := D) (ci := 6) (v := .int (I0 0 11)) (C := RM) (T := TM) (N := 33) hx hb htb inM hown hK hP 0 (mw_at (by decide) (ym_0 _ _ _ _)) rfl 11 (by decide) (htb _ k2_183) (fun _ h9 => h9) rfl dM_isVote_6 ?_
    refine lv_icmp_ge (tgt := 16) hx hb dM_isVote_9 (by decide) (fun hc => ?_) (fun hc => ?_)
    · have h := h.1 hc
      refine lv_iconst (v := 0) hx hb dM_isVote_16 (by decide) ?_
      exact me_z hx hb hr hlk hP hS rfl h dM_isVote_17
    · have h := h.2 hc
      refine lv_iconst (v := 1) hx hb dM_isVote_12 (by decide) ?_
      refine lv_goto (tgt := 17) hx hb dM_isVote_13 (by decide) ?_
      exact me_z hx hb hr hlk hP hS rfl h dM_isVote_17
def wp_M_isValidator (R : Int32 → mI → mJ → Prop) (I0 : mI) (J0 : mJ) (a1 : Int32) : Prop :=
  ((a1 < 0 → R 0 I0 J0) ∧ (¬ (a1 < 0) → (((I0 0 0) ≤ a1 → R 0 I0 J0) ∧ (¬ ((I0 0 0) ≤ a1) → R 1 I0 J0))))
theorem P_M_isValidator (I0 : mI) (J0 : mJ) (a1 : Int32)    (R : Int32 → mI → mJ → Prop)  (hR : R (fM_isValidator I0 J0 a1) I0 J0) : wp_M_isValidator R I0 J0 a1 := by
  unfold wp_M_isValidator
  unfold fM_isValidator fIn at hR
  (repeat' split at hR) <;> (repeat' (first | exact hR | apply And.intro | (intro hh; try contradiction)))
set_option maxHeartbeats 4000000 in
set_option maxRecDepth 100000 in
theorem C_M_isValidator (l : Launch) (D : va_G) (ca : Nat → Nat) (ad : Nat → Nat) (I0 : mI) (J0 : mJ) (a1 : Int32)   : Met l yM_isValidator wM_isValidator ({ frames := 0, cells := 0, slots := 0, locals := 0 } : Room) (va_Pc [.ref (ad 0), .int a1] (mPre D vwCl (xty ca) 23 ad (ymk ca ad) nL I0 J0)) (mQi D vwCl 23 ad (ymk ca ad) (fun r I' J' => r = fM_isValidator I0 J0 a1 ∧ I' = I0 ∧ J' = J0)) 0 0 (mA 23 ad) := by
  refine Met.ofW (cc := cM_isValidator) (maxL := 2) (ret := (some .boolean)) (by decide) rfl ?_
  intro p e s m args below meth c s₁ B hml hv
  obtain ⟨rfl, hP, hK, hD0, hN⟩ := hv
  have hx := B.exec
  have hb := B.bytes
  have hr := B.returns
  have htb : ∀ w ∈ wb, w.before _ s = true := fun w h => atoms_spec (ws := wM_isValidator) B.pre w (List.mem_cons_of_mem _ h)
  have hown : s.vm.findClass RM = some m.cls := findClass_of_methodNamed B.named
  have hlk := B.notSynchronized
  have hD := mw_Dm hD0
  have hS : va_S (mA 23 ad) s.heap s.heap [] := va_S.rf
  have hl := lv_entry ([.ref (ad 0), .int a1]) (n := 2) (Nat.le_of_ble_eq_true rfl)
  rw [lg_entry_eq]
  generalize (lg_sl ([.ref (ad 0), .int a1]) ++ List.replicate (2 - (lg_sl ([.ref (ad 0), .int a1])).length) Slot.unset).toArray = ls at hl ⊢
  have hl : lv_has ls 2 [(0, .ref (ad 0)), (1, .int a1)] := hl
  have h := P_M_isValidator I0 J0 a1    (fun r I' J' => r = fM_isValidator I0 J0 a1 ∧ I' = I0 ∧ J' = J0)  ⟨rfl, rfl, rfl⟩
  unfold wp_M_isValidator at h
  refine lv_iload_n hx hb dM_isValidator_0 rfl (lv_at hl 1 rfl) ?_
  refine lv_if_lt (tgt := 16) hx hb dM_isValidator_1 (by decide) (fun hc => ?_) (fun hc => ?_)
  · have h := h.1 hc
    refine lv_iconst (v := 0) hx hb dM_isValidator_16 (by decide) ?_
    exact me_z hx hb hr hlk hP hS rfl h dM_isValidator_17
  · have h := h.2 hc
    refine lv_iload_n hx hb dM_isValidator_4 rfl (lv_at hl 1 rfl) ?_
    refine lv_aload_n hx hb dM_isValidator_5 rfl (lv_at hl 0 rfl) ?_
    refine va_get (D := D) (ci := 6) (v := .int (I0 0 0)) (C := RM) (T := TM) (N := 33) hx hb htb inM hown hK hP 0 (mw_at (by decide) (ym_0 _ _ _ _)) rfl 0 (by decide) (htb _ k2_172) (fun _ h9 => h9) rfl dM_isValidator_6 ?_
    refine lv_icmp_ge (tgt := 16) hx hb dM_isValidator_9 (by decide) (fun hc => ?_) (fun hc => ?_)
    · have h := h.1 hc
      refine lv_iconst (v := 0) hx hb dM_isValidator_16 (by decide) ?_
      exact me_z hx hb hr hlk hP hS rfl h dM_isValidator_17
    · have h := h.2 hc
      refine lv_iconst (v := 1) hx hb dM_isValidator_12 (by decide) ?_
      refine lv_goto (tgt := 17) hx hb dM_isValidator_13 (by decide) ?_
      exact me_z hx hb hr hlk hP hS rfl h dM_isValidator_17
def wp_M_isNode (R : Int32 → mI → mJ → Prop) (I0 : mI) (J0 : mJ) (a0 : Int32) : Prop :=
  ((a0 < 0 → R 0 I0 J0) ∧ (¬ (a0 < 0) → ((2 < a0 → R 0 I0 J0) ∧ (¬ (2 < a0) → R 1 I0 J0))))
theorem P_M_isNode (I0 : mI) (J0 : mJ) (a0 : Int32)    (R : Int32 → mI → mJ → Prop)  (hR : R (fM_isNode I0 J0 a0) I0 J0) : wp_M_isNode R I0 J0 a0 := by
  unfold wp_M_isNode
  unfold fM_isNode at hR
  (repeat' split at hR) <;> (repeat' (first | exact hR | apply And.intro | (intro hh; try contradiction)))
set_option maxHeartbeats 4000000 in
set_option maxRecDepth 100000 in
theorem C_M_isNode (l : Launch) (D : va_G) (ca : Nat → Nat) (ad : Nat → Nat) (I0 : mI) (J0 : mJ) (a0 : Int32)   : Met l yM_isNode wM_isNode ({ frames := 0, cells := 0, slots := 0, locals := 0 } : Room) (va_Pc [.int a0] (mPre D vwCl (xty ca) 23 ad (ymk ca ad) nL I0 J0)) (mQi D vwCl 23 ad (ymk ca ad) (fun r I' J' => r = fM_isNode I0 J0 a0 ∧ I' = I0 ∧ J' = J0)) 0 0 (mA 23 ad) := by
  refine Met.ofW (cc := cM_isNode) (maxL := 1) (ret := (some .boolean)) (by decide) rfl ?_
  intro p e s m args below meth c s₁ B hml hv
  obtain ⟨rfl, hP, hK, hD0, hN⟩ := hv
  have hx := B.exec
  have hb := B.bytes
  have hr := B.returns
  have htb : ∀ w ∈ wb, w.before _ s = true := fun w h => atoms_spec (ws := wM_isNode) B.pre w (List.mem_cons_of_mem _ h)
  have hown : s.vm.findClass RM = some m.cls := findClass_of_methodNamed B.named
  have hlk := B.notSynchronized
  have hD := mw_Dm hD0
  have hS : va_S (mA 23 ad) s.heap s.heap [] := va_S.rf
  have hl := lv_entry ([.int a0]) (n := 1) (Nat.le_of_ble_eq_true rfl)
  rw [lg_entry_eq]
  generalize (lg_sl ([.int a0]) ++ List.replicate (1 - (lg_sl ([.int a0])).length) Slot.unset).toArray = ls at hl ⊢
  have hl : lv_has ls 1 [(0, .int a0)] := hl
  have h := P_M_isNode I0 J0 a0    (fun r I' J' => r = fM_isNode I0 J0 a0 ∧ I' = I0 ∧ J' = J0)  ⟨rfl, rfl, rfl⟩
  unfold wp_M_isNode at h
  refine lv_iload_n hx hb dM_isNode_0 rfl (lv_at hl 0 rfl) ?_
  refine lv_if_lt (tgt := 13) hx hb dM_isNode_1 (by decide) (fun hc => ?_) (fun hc => ?_)
  · have h := h.1 hc
    refine lv_iconst (v := 0) hx hb dM_isNode_13 (by decide) ?_
    exact me_z hx hb hr hlk hP hS rfl h dM_isNode_14
  · have h := h.2 hc
    refine lv_iload_n hx hb dM_isNode_4 rfl (lv_at hl 0 rfl) ?_
    refine lv_iconst (v := 2) hx hb dM_isNode_5 (by decide) ?_
    refine lv_icmp_gt (tgt := 13) hx hb dM_isNode_6 (by decide) (fun hc => ?_) (fun hc => ?_)
    · have h := h.1 hc
      refine lv_iconst (v := 0) hx hb dM_isNode_13 (by decide) ?_
      exact me_z hx hb hr hlk hP hS rfl h dM_isNode_14
    · have h := h.2 hc
      refine lv_iconst (v := 1) hx hb dM_isNode_9 (by decide) ?_
      refine lv_goto (tgt := 14) hx hb dM_isNode_10 (by decide) ?_
      exact me_z hx hb hr hlk hP hS rfl h dM_isNode_14
def wp_M_descends_2 (K2 : mI → mJ → Int32 → Prop) (R : Int32 → mI → mJ → Prop) (I : mI) (J : mJ) (a1 : Int32) (a2 : Int32) (x3 : Int32) : Prop :=
  ((x3 ≤ a2 → ((¬ (x3 = a2) → R 0 I J) ∧ (x3 = a2 → R 1 I J))) ∧ (¬ (x3 ≤ a2) → (vp_in x3 60 ∧ K2 I J (I 2 x3.toNatClampNeg))))
def wp_M_descends (K2 : mI → mJ → Int32 → Prop) (R : Int32 → mI → mJ → Prop) (I0 : mI) (J0 : mJ) (a1 : Int32) (a2 : Int32) : Prop :=
  K2 I0 J0 a1
theorem P_M_descends (S : mI) (I0 : mI) (J0 : mJ) (a1 : Int32) (a2 : Int32)  (hp : pM_descends S I0 J0 a1 a2) (K2 : mI → mJ → Int32 → Prop) (R : Int32 → mI → mJ → Prop) (c2 : ∀ (I : mI) (J : mJ) (x3 : Int32), wp_M_descends_2 K2 R I J a1 a2 x3 → K2 I J x3) (hR : R (fM_descends S I0 J0 a1 a2) I0 J0) : wp_M_descends K2 R I0 J0 a1 a2 := by
  obtain ⟨hY, ⟨n, hn, rfl⟩, ⟨k, hk, rfl⟩⟩ := hp
  have hb := hY.1.b
  unfold fM_descends at hR
  rw [cN_nI (by omega), cN_nI (by omega)] at hR
  have key : ∀ m x, x ≤ m → x < zBc S → zD S n k = zD S x k → K2 I0 J0 (nI x) := by
    intro m
    induction m with
    | zero =>
      intro x hx hxb he
      have hx : x = 0 := by omega
      subst hx
      apply c2
      unfold wp_M_descends_2
      rw [he, zD_eq hY.1.up hxb, if_pos (by omega)] at hR
      refine ⟨fun _ => ⟨fun h2 => ?_, fun h2 => ?_⟩, fun h => absurd (nI_le (by omega) (by omega)) h⟩
      · rw [nI_eq (by omega) (by omega)] at h2
        rw [decide_eq_false h2] at hR
        exact hR
      · rw [nI_eq (by omega) (by omega)] at h2
        rw [decide_eq_true h2] at hR
        exact hR
    | succ m ih =>
      intro x hx hxb he
      apply c2
      unfold wp_M_descends_2
      rw [show (nI x).toNatClampNeg = x from nI_clamp (by omega), hY.r (by omega) (by omega)]
      refine ⟨fun h => ?_, fun h => ⟨vp_in_nI (by omega) (by omega), ?_⟩⟩
      · rw [nI_leI (by omega) (by omega)] at h
        rw [he, zD_eq hY.1.up hxb, if_pos h] at hR
        refine ⟨fun h2 => ?_, fun h2 => ?_⟩
        · rw [nI_eq (by omega) (by omega)] at h2
          rw [decide_eq_false h2] at hR
          exact hR
        · rw [nI_eq (by omega) (by omega)] at h2
          rw [decide_eq_true h2] at hR
          exact hR
      · rw [nI_leI (by omega) (by omega)] at h
        have hB := (hY.1.2.1 x hxb).2.2.2.2.2.1 (by omega)
        rw [hB.1]
        refine ih (zPar S x) (by omega) (by omega) ?_
        rw [he, zD_eq hY.1.up hxb, if_neg h]
  exact key n n (Nat.le_refl _) hn rfl
set_option maxHeartbeats 4000000 in
set_option maxRecDepth 100000 in
theorem C_M_descends (l : Launch) (D : va_G) (ca : Nat → Nat) (ad : Nat → Nat) (S : mI) (I0 : mI) (J0 : mJ) (a1 : Int32) (a2 : Int32)  (hp : pM_descends S I0 J0 a1 a2) : Met l yM_descends wM_descends ({ frames := 0, cells := 0, slots := 0, locals := 0 } : Room) (va_Pc [.ref (ad 0), .int a1, .int a2] (mPre D vwCl (xty ca) 23 ad (ymk ca ad) nL I0 J0)) (mQi D vwCl 23 ad (ymk ca ad) (fun r I' J' => r = fM_descends S I0 J0 a1 a2 ∧ I' = I0 ∧ J' = J0)) 0 0 (mA 23 ad) := by
  refine Met.ofW (cc := cM_descends) (maxL := 4) (ret := (some .boolean)) (by decide) rfl ?_
  intro p e s m args below meth c s₁ B hml hv
  obtain ⟨rfl, hP, hK, hD0, hN⟩ := hv
  have hx := B.exec
  have hb := B.bytes
  have hr := B.returns
  have htb : ∀ w ∈ wb, w.before _ s = true := fun w h => atoms_spec (ws := wM_descends) B.pre w (List.mem_cons_of_mem _ h)
  have hown : s.vm.findClass RM = some m.cls := findClass_of_methodNamed B.named
  have hlk := B.notSynchronized
  have hD := mw_Dm hD0
  have hS : va_S (mA 23 ad) s.heap s.heap [] := va_S.rf
  have hl := lv_entry ([.ref (ad 0), .int a1, .int a2]) (n := 4) (Nat.le_of_ble_eq_true rfl)
  rw [lg_entry_eq]
  generalize (lg_sl ([.ref (ad 0), .int a1, .int a2]) ++ List.replicate (4 - (lg_sl ([.ref (ad 0), .int a1, .int a2])).length) Slot.unset).toArray = ls at hl ⊢
  have hl : lv_has ls 4 [(0, .ref (ad 0)), (1, .int a1), (2, .int a2)] := hl
  obtain ⟨K2, hK2⟩ : ∃ K : mI → mJ → Int32 → Prop, K = (fun I J x3 => ∀ (H : Heap) (locs : List Loc) (ls : Array Slot), va_P D vwCl (mw 23 ad (ymk ca ad) I J) H → va_S (mA 23 ad) s.heap H locs → lv_has ls 4 [(0, .ref (ad 0)), (2, .int a2), (3, .int x3)] → W p l e (headSpec wM_descends ({ frames := 0, cells := 0, slots := 0, locals := 0 } : Room)).room s m (([.ref (ad 0), .int a1, .int a2] : List Value).toArray) below meth c H locs 0 0 (MQ below (mQi D vwCl 23 ad (ymk ca ad) (fun r I' J' => r = fM_descends S I0 J0 a1 a2 ∧ I' = I0 ∧ J' = J0)) (([.ref (ad 0), .int a1, .int a2] : List Value).toArray) s 0 0 (mA 23 ad)) (F0 m 2 ls [])) := ⟨_, rfl⟩
  have c2 : ∀ (I : mI) (J : mJ) (x3 : Int32), wp_M_descends_2 K2 (fun r I' J' => r = fM_descends S I0 J0 a1 a2 ∧ I' = I0 ∧ J' = J0) I J a1 a2 x3 → K2 I J x3 := by
    intro I J x3 h
    rw [hK2]
    intro H locs ls hP hS hl
    unfold wp_M_descends_2 at h
    refine lv_iload_n hx hb dM_descends_2 rfl (lv_at hl 2 rfl) ?_
    refine lv_iload_n hx hb dM_descends_3 rfl (lv_at hl 1 rfl) ?_
    refine lv_icmp_le (tgt := 17) hx hb dM_descends_4 (by decide) (fun hc => ?_) (fun hc => ?_)
    · have h := h.1 hc
      refine lv_iload_n hx hb dM_descends_17 rfl (lv_at hl 2 rfl) ?_
      refine lv_iload_n hx hb dM_descends_18 rfl (lv_at hl 1 rfl) ?_
      refine lv_icmp_ne (tgt := 26) hx hb dM_descends_19 (by decide) (fun hc => ?_) (fun hc => ?_)
      · have h := h.1 hc
        refine lv_iconst (v := 0) hx hb dM_descends_26 (by decide) ?_
        exact me_z hx hb hr hlk hP hS rfl h dM_descends_27
      · have h := h.2 hc
        refine lv_iconst (v := 1) hx hb dM_descends_22 (by decide) ?_
        refine lv_goto (tgt := 27) hx hb dM_descends_23 (by decide) ?_
        exact me_z hx hb hr hlk hP hS rfl h dM_descends_27
    · have h := h.2 hc
      refine lv_aload_n hx hb dM_descends_7 rfl (lv_at hl 0 rfl) ?_
      refine va_get (D := D) (ci := 6) (v := .ref (ad 2)) (C := RM) (T := TM) (N := 33) hx hb htb inM hown hK hP 0 (mw_at (by decide) (ym_0 _ _ _ _)) rfl 5 (by decide) (htb _ k2_177) (fun _ h9 => h9) rfl dM_descends_8 ?_
      refine lv_iload_n hx hb dM_descends_11 rfl (lv_at hl 2 rfl) ?_
      obtain ⟨hn1, h⟩ := h
      refine mr_iald hx hb hK hP 2 0 (by decide) rfl rfl hn1 dM_descends_12 ?_
      refine lv_istore_n (lv' := [(3, .int (I 2 x3.toNatClampNeg)), (0, .ref (ad 0)), (2, .int a2)]) hx hb dM_descends_13 rfl hl (by decide) rfl (fun ls hl => ?_)
      refine lv_goto (tgt := 2) hx hb dM_descends_14 (by decide) ?_
      rw [hK2] at h
      exact h _ _ _ hP hS (lv_sub hl [1, 2, 0] rfl)
  have h := P_M_descends S I0 J0 a1 a2  hp K2 (fun r I' J' => r = fM_descends S I0 J0 a1 a2 ∧ I' = I0 ∧ J' = J0) c2 ⟨rfl, rfl, rfl⟩
  unfold wp_M_descends at h
  refine lv_iload_n hx hb dM_descends_0 rfl (lv_at hl 1 rfl) ?_
  refine lv_istore_n (lv' := [(3, .int a1), (0, .ref (ad 0)), (1, .int a1), (2, .int a2)]) hx hb dM_descends_1 rfl hl (by decide) rfl (fun ls hl => ?_)
  rw [hK2] at h
  exact h _ _ _ hP hS (lv_sub hl [1, 3, 0] rfl)
def wp_M_checkpointBlock_2 (K2 : mI → mJ → Int32 → Prop) (R : Int32 → mI → mJ → Prop) (I : mI) (J : mJ) (a1 : Int32) (a2 : Int32) (x3 : Int32) : Prop :=
  (vp_in x3 60 ∧ (((I 3 x3.toNatClampNeg) ≤ (a2 * (I 0 1)) → R x3 I J) ∧ (¬ ((I 3 x3.toNatClampNeg) ≤ (a2 * (I 0 1))) → (vp_in x3 60 ∧ K2 I J (I 2 x3.toNatClampNeg)))))
def wp_M_checkpointBlock (K2 : mI → mJ → Int32 → Prop) (R : Int32 → mI → mJ → Prop) (I0 : mI) (J0 : mJ) (a1 : Int32) (a2 : Int32) : Prop :=
  K2 I0 J0 a1
theorem P_M_checkpointBlock (S : mI) (I0 : mI) (J0 : mJ) (a1 : Int32) (a2 : Int32)  (hp : pM_checkpointBlock S I0 J0 a1 a2) (K2 : mI → mJ → Int32 → Prop) (R : Int32 → mI → mJ → Prop) (c2 : ∀ (I : mI) (J : mJ) (x3 : Int32), wp_M_checkpointBlock_2 K2 R I J a1 a2 x3 → K2 I J x3) (hR : R (fM_checkpointBlock S I0 J0 a1 a2) I0 J0) : wp_M_checkpointBlock K2 R I0 J0 a1 a2 := by
  obtain ⟨hY, ⟨n, hn, rfl⟩, ⟨k, hk, rfl⟩⟩ := hp
  have hb := hY.1.b
  unfold fM_checkpointBlock at hR
  rw [cN_nI (by omega), cN_nI (by omega)] at hR
  have hkl : k * zLn S ≤ 240 * 5 := Nat.mul_le_mul hk (by omega)
  have key : ∀ m x, x ≤ m → x < zBc S → zC S n k = zC S x k → K2 I0 J0 (nI x) := by
    intro m
    induction m with
    | zero =>
      intro x hx hxb he
      have hx : x = 0 := by omega
      subst hx
      have hB := hY.1.2.1 0 hxb
      apply c2
      unfold wp_M_checkpointBlock_2
      rw [show (nI 0).toNatClampNeg = 0 from rfl, hY.r (by omega) (by omega), hB.1, hY.ln, pk_mul, hY.1.s0]
      rw [he, zC_eq hY.1.up hY.1.s0 hxb, hY.1.s0, if_pos (by omega)] at hR
      exact ⟨vp_in_nI (by omega) (by omega), fun _ => hR, fun h => absurd (nI_le (by omega) (by omega)) h⟩
    | succ m ih =>
      intro x hx hxb he
      have hB := hY.1.2.1 x hxb
      apply c2
      unfold wp_M_checkpointBlock_2
      rw [show (nI x).toNatClampNeg = x from nI_clamp (by omega), hY.r (j := 3) (by omega) (by omega), hY.r (j := 2) (by omega) (by omega), hB.1, hY.ln, pk_mul]
      refine ⟨vp_in_nI (by omega) (by omega), fun h => ?_, fun h => ⟨vp_in_nI (by omega) (by omega), ?_⟩⟩
      · rw [nI_leI (by omega) (by omega)] at h
        rw [he, zC_eq hY.1.up hY.1.s0 hxb, if_pos h] at hR
        exact hR
      · rw [nI_leI (by omega) (by omega)] at h
        have hx0 : 0 < x := by
          rcases Nat.eq_zero_or_pos x with z | z
          · subst z
            rw [hY.1.s0] at h
            omega
          · exact z
        have hq := hB.2.2.2.2.2.1 hx0
        rw [hq.1]
        refine ih (zPar S x) (by omega) (by omega) ?_
        rw [he, zC_eq hY.1.up hY.1.s0 hxb, if_neg h]
  exact key n n (Nat.le_refl _) hn rfl
set_option maxHeartbeats 4000000 in
set_option maxRecDepth 100000 in
theorem C_M_checkpointBlock (l : Launch) (D : va_G) (ca : Nat → Nat) (ad : Nat → Nat) (S : mI) (I0 : mI) (J0 : mJ) (a1 : Int32) (a2 : Int32)  (hp : pM_checkpointBlock S I0 J0 a1 a2) : Met l yM_checkpointBlock wM_checkpointBlock ({ frames := 0, cells := 0, slots := 0, locals := 0 } : Room) (va_Pc [.ref (ad 0), .int a1, .int a2] (mPre D vwCl (xty ca) 23 ad (ymk ca ad) nL I0 J0)) (mQi D vwCl 23 ad (ymk ca ad) (fun r I' J' => r = fM_checkpointBlock S I0 J0 a1 a2 ∧ I' = I0 ∧ J' = J0)) 0 0 (mA 23 ad) := by
  refine Met.ofW (cc := cM_checkpointBlock) (maxL := 4) (ret := (some .int)) (by decide) rfl ?_
  intro p e s m args below meth c s₁ B hml hv
  obtain ⟨rfl, hP, hK, hD0, hN⟩ := hv
  have hx := B.exec
  have hb := B.bytes
  have hr := B.returns
  have htb : ∀ w ∈ wb, w.before _ s = true := fun w h => atoms_spec (ws := wM_checkpointBlock) B.pre w (List.mem_cons_of_mem _ h)
  have hown : s.vm.findClass RM = some m.cls := findClass_of_methodNamed B.named
  have hlk := B.notSynchronized
  have hD := mw_Dm hD0
  have hS : va_S (mA 23 ad) s.heap s.heap [] := va_S.rf
  have hl := lv_entry ([.ref (ad 0), .int a1, .int a2]) (n := 4) (Nat.le_of_ble_eq_true rfl)
  rw [lg_entry_eq]
  generalize (lg_sl ([.ref (ad 0), .int a1, .int a2]) ++ List.replicate (4 - (lg_sl ([.ref (ad 0), .int a1, .int a2])).length) Slot.unset).toArray = ls at hl ⊢
  have hl : lv_has ls 4 [(0, .ref (ad 0)), (1, .int a1), (2, .int a2)] := hl
  obtain ⟨K2, hK2⟩ : ∃ K : mI → mJ → Int32 → Prop, K = (fun I J x3 => ∀ (H : Heap) (locs : List Loc) (ls : Array Slot), va_P D vwCl (mw 23 ad (ymk ca ad) I J) H → va_S (mA 23 ad) s.heap H locs → lv_has ls 4 [(0, .ref (ad 0)), (2, .int a2), (3, .int x3)] → W p l e (headSpec wM_checkpointBlock ({ frames := 0, cells := 0, slots := 0, locals := 0 } : Room)).room s m (([.ref (ad 0), .int a1, .int a2] : List Value).toArray) below meth c H locs 0 0 (MQ below (mQi D vwCl 23 ad (ymk ca ad) (fun r I' J' => r = fM_checkpointBlock S I0 J0 a1 a2 ∧ I' = I0 ∧ J' = J0)) (([.ref (ad 0), .int a1, .int a2] : List Value).toArray) s 0 0 (mA 23 ad)) (F0 m 2 ls [])) := ⟨_, rfl⟩
  have c2 : ∀ (I : mI) (J : mJ) (x3 : Int32), wp_M_checkpointBlock_2 K2 (fun r I' J' => r = fM_checkpointBlock S I0 J0 a1 a2 ∧ I' = I0 ∧ J' = J0) I J a1 a2 x3 → K2 I J x3 := by
    intro I J x3 h
    rw [hK2]
    intro H locs ls hP hS hl
    unfold wp_M_checkpointBlock_2 at h
    refine lv_aload_n hx hb dM_checkpointBlock_2 rfl (lv_at hl 0 rfl) ?_
    refine va_get (D := D) (ci := 6) (v := .ref (ad 3)) (C := RM) (T := TM) (N := 33) hx hb htb inM hown hK hP 0 (mw_at (by decide) (ym_0 _ _ _ _)) rfl 6 (by decide) (htb _ k2_178) (fun _ h9 => h9) rfl dM_checkpointBlock_3 ?_
    refine lv_iload_n hx hb dM_checkpointBlock_6 rfl (lv_at hl 2 rfl) ?_
    obtain ⟨hn1, h⟩ := h
    refine mr_iald hx hb hK hP 3 0 (by decide) rfl rfl hn1 dM_checkpointBlock_7 ?_
    refine lv_iload_n hx hb dM_checkpointBlock_8 rfl (lv_at hl 1 rfl) ?_
    refine lv_aload_n hx hb dM_checkpointBlock_9 rfl (lv_at hl 0 rfl) ?_
    refine va_get (D := D) (ci := 6) (v := .int (I 0 1)) (C := RM) (T := TM) (N := 33) hx hb htb inM hown hK hP 0 (mw_at (by decide) (ym_0 _ _ _ _)) rfl 1 (by decide) (htb _ k2_173) (fun _ h9 => h9) rfl dM_checkpointBlock_10 ?_
    refine lv_imul hx hb dM_checkpointBlock_13 ?_
    refine lv_icmp_le (tgt := 27) hx hb dM_checkpointBlock_14 (by decide) (fun hc => ?_) (fun hc => ?_)
    · have h := h.1 hc
      refine lv_iload_n hx hb dM_checkpointBlock_27 rfl (lv_at hl 2 rfl) ?_
      exact me_i hx hb hr hlk hP hS h dM_checkpointBlock_28
    · have h := h.2 hc
      refine lv_aload_n hx hb dM_checkpointBlock_17 rfl (lv_at hl 0 rfl) ?_
      refine va_get (D := D) (ci := 6) (v := .ref (ad 2)) (C := RM) (T := TM) (N := 33) hx hb htb inM hown hK hP 0 (mw_at (by decide) (ym_0 _ _ _ _)) rfl 5 (by decide) (htb _ k2_177) (fun _ h9 => h9) rfl dM_checkpointBlock_18 ?_
      refine lv_iload_n hx hb dM_checkpointBlock_21 rfl (lv_at hl 2 rfl) ?_
      obtain ⟨hn2, h⟩ := h
      refine mr_iald hx hb hK hP 2 0 (by decide) rfl rfl hn2 dM_checkpointBlock_22 ?_
      refine lv_istore_n (lv' := [(3, .int (I 2 x3.toNatClampNeg)), (0, .ref (ad 0)), (2, .int a2)]) hx hb dM_checkpointBlock_23 rfl hl (by decide) rfl (fun ls hl => ?_)
      refine lv_goto (tgt := 2) hx hb dM_checkpointBlock_24 (by decide) ?_
      rw [hK2] at h
      exact h _ _ _ hP hS (lv_sub hl [1, 2, 0] rfl)
  have h := P_M_checkpointBlock S I0 J0 a1 a2  hp K2 (fun r I' J' => r = fM_checkpointBlock S I0 J0 a1 a2 ∧ I' = I0 ∧ J' = J0) c2 ⟨rfl, rfl, rfl⟩
  unfold wp_M_checkpointBlock at h
  refine lv_iload_n hx hb dM_checkpointBlock_0 rfl (lv_at hl 1 rfl) ?_
  refine lv_istore_n (lv' := [(3, .int a1), (0, .ref (ad 0)), (1, .int a1), (2, .int a2)]) hx hb dM_checkpointBlock_1 rfl hl (by decide) rfl (fun ls hl => ?_)
  rw [hK2] at h
  exact h _ _ _ hP hS (lv_sub hl [1, 3, 0] rfl)
def wp_M_clash (R : Int32 → mI → mJ → Prop) (I0 : mI) (J0 : mJ) (a1 : Int32) (a2 : Int32) : Prop :=
  ((a1 = a2 → R 0 I0 J0) ∧ (¬ (a1 = a2) → (vp_in a1 80 ∧ (vp_in a2 80 ∧ (((I0 7 a1.toNatClampNeg) = (I0 7 a2.toNatClampNeg) → (vp_in a1 80 ∧ (vp_in a2 80 ∧ (((I0 10 a2.toNatClampNeg) ≤ (I0 10 a1.toNatClampNeg) → (vp_in a2 80 ∧ (vp_in a1 80 ∧ (((I0 10 a1.toNatClampNeg) ≤ (I0 10 a2.toNatClampNeg) → (vp_in a1 80 ∧ (vp_in a2 80 ∧ (((I0 12 a1.toNatClampNeg) = (I0 12 a2.toNatClampNeg) → R 1 I0 J0) ∧ (¬ ((I0 12 a1.toNatClampNeg) = (I0 12 a2.toNatClampNeg)) → R 0 I0 J0))))) ∧ (¬ ((I0 10 a1.toNatClampNeg) ≤ (I0 10 a2.toNatClampNeg)) → (vp_in a2 80 ∧ (vp_in a1 80 ∧ (((I0 12 a2.toNatClampNeg) ≤ (I0 12 a1.toNatClampNeg) → (vp_in a1 80 ∧ (vp_in a2 80 ∧ (((I0 12 a1.toNatClampNeg) = (I0 12 a2.toNatClampNeg) → R 1 I0 J0) ∧ (¬ ((I0 12 a1.toNatClampNeg) = (I0 12 a2.toNatClampNeg)) → R 0 I0 J0))))) ∧ (¬ ((I0 12 a2.toNatClampNeg) ≤ (I0 12 a1.toNatClampNeg)) → (vp_in a1 80 ∧ (vp_in a2 80 ∧ (((I0 12 a1.toNatClampNeg) = (I0 12 a2.toNatClampNeg) → R 1 I0 J0) ∧ (¬ ((I0 12 a1.toNatClampNeg) = (I0 12 a2.toNatClampNeg)) → R 1 I0 J0))))))))))))) ∧ (¬ ((I0 10 a2.toNatClampNeg) ≤ (I0 10 a1.toNatClampNeg)) → (vp_in a1 80 ∧ (vp_in a2 80 ∧ (((I0 12 a1.toNatClampNeg) ≤ (I0 12 a2.toNatClampNeg) → (vp_in a2 80 ∧ (vp_in a1 80 ∧ (((I0 10 a1.toNatClampNeg) ≤ (I0 10 a2.toNatClampNeg) → (vp_in a1 80 ∧ (vp_in a2 80 ∧ (((I0 12 a1.toNatClampNeg) = (I0 12 a2.toNatClampNeg) → R 1 I0 J0) ∧ (¬ ((I0 12 a1.toNatClampNeg) = (I0 12 a2.toNatClampNeg)) → R 0 I0 J0))))) ∧ (¬ ((I0 10 a1.toNatClampNeg) ≤ (I0 10 a2.toNatClampNeg)) → (vp_in a2 80 ∧ (vp_in a1 80 ∧ (((I0 12 a2.toNatClampNeg) ≤ (I0 12 a1.toNatClampNeg) → (vp_in a1 80 ∧ (vp_in a2 80 ∧ (((I0 12 a1.toNatClampNeg) = (I0 12 a2.toNatClampNeg) → R 1 I0 J0) ∧ (¬ ((I0 12 a1.toNatClampNeg) = (I0 12 a2.toNatClampNeg)) → R 0 I0 J0))))) ∧ (¬ ((I0 12 a2.toNatClampNeg) ≤ (I0 12 a1.toNatClampNeg)) → (vp_in a1 80 ∧ (vp_in a2 80 ∧ (((I0 12 a1.toNatClampNeg) = (I0 12 a2.toNatClampNeg) → R 1 I0 J0) ∧ (¬ ((I0 12 a1.toNatClampNeg) = (I0 12 a2.toNatClampNeg)) → R 1 I0 J0))))))))))))) ∧ (¬ ((I0 12 a1.toNatClampNeg) ≤ (I0 12 a2.toNatClampNeg)) → (vp_in a2 80 ∧ (vp_in a1 80 ∧ (((I0 10 a1.toNatClampNeg) ≤ (I0 10 a2.toNatClampNeg) → (vp_in a1 80 ∧ (vp_in a2 80 ∧ (((I0 12 a1.toNatClampNeg) = (I0 12 a2.toNatClampNeg) → R 1 I0 J0) ∧ (¬ ((I0 12 a1.toNatClampNeg) = (I0 12 a2.toNatClampNeg)) → R 1 I0 J0))))) ∧ (¬ ((I0 10 a1.toNatClampNeg) ≤ (I0 10 a2.toNatClampNeg)) → (vp_in a2 80 ∧ (vp_in a1 80 ∧ (((I0 12 a2.toNatClampNeg) ≤ (I0 12 a1.toNatClampNeg) → (vp_in a1 80 ∧ (vp_in a2 80 ∧ (((I0 12 a1.toNatClampNeg) = (I0 12 a2.toNatClampNeg) → R 1 I0 J0) ∧ (¬ ((I0 12 a1.toNatClampNeg) = (I0 12 a2.toNatClampNeg)) → R 1 I0 J0))))) ∧ (¬ ((I0 12 a2.toNatClampNeg) ≤ (I0 12 a1.toNatClampNeg)) → (vp_in a1 80 ∧ (vp_in a2 80 ∧ (((I0 12 a1.toNatClampNeg) = (I0 12 a2.toNatClampNeg) → R 1 I0 J0) ∧ (¬ ((I0 12 a1.toNatClampNeg) = (I0 12 a2.toNatClampNeg)) → R 1 I0 J0))))))))))))))))))))) ∧ (¬ ((I0 7 a1.toNatClampNeg) = (I0 7 a2.toNatClampNeg)) → R 0 I0 J0))))))
theorem P_M_clash (S : mI) (I0 : mI) (J0 : mJ) (a1 : Int32) (a2 : Int32)  (hp : pM_clash S I0 J0 a1 a2)  (R : Int32 → mI → mJ → Prop)  (hR : R (fM_clash S I0 J0 a1 a2) I0 J0) : wp_M_clash R I0 J0 a1 a2 := by
  obtain ⟨hY, ⟨i, hi, rfl⟩, ⟨j, hj, rfl⟩⟩ := hp
  have hb := hY.1.b
  have vi := hY.1.v hi
  have vj := hY.1.v hj
  have Vi := hY.1.2.2.2.1 i hi
  have Vj := hY.1.2.2.2.1 j hj
  unfold fM_clash at hR
  rw [cN_nI (by omega), cN_nI (by omega)] at hR
  unfold zCl at hR
  have hvi : vp_in (nI i) 80 := vp_in_nI (by omega) (by omega)
  have hvj : vp_in (nI j) 80 := vp_in_nI (by omega) (by omega)
  unfold wp_M_clash
  rw [show (nI i).toNatClampNeg = i from nI_clamp (by omega), show (nI j).toNatClampNeg = j from nI_clamp (by omega), hY.r (j := 7) (by omega) (by omega), hY.r (j := 10) (by omega) (by omega), hY.r (j := 12) (by omega) (by omega), Vi.1, Vj.1, Vi.2.2.2.2.2.2.1, Vj.2.2.2.2.2.2.1, Vi.2.2.2.2.2.2.2.2.2.2.1, Vj.2.2.2.2.2.2.2.2.2.2.1]
  rw [nI_eq (a := i) (b := j) (by omega) (by omega), nI_eq (a := zVr S i) (b := zVr S j) (by omega) (by omega), nI_eq (a := zTe S i) (b := zTe S j) (by omega) (by omega), nI_leI (a := zSe S i) (b := zSe S j) (by omega) (by omega), nI_leI (a := zSe S j) (b := zSe S i) (by omega) (by omega), nI_leI (a := zTe S i) (b := zTe S j) (by omega) (by omega), nI_leI (a := zTe S j) (b := zTe S i) (by omega) (by omega)]
  have hR1 : i ≠ j → zVr S i = zVr S j → (zTe S i = zTe S j ∨ (zSe S i < zSe S j ∧ zTe S j < zTe S i) ∨ (zSe S j < zSe S i ∧ zTe S i < zTe S j)) → R 1 I0 J0 := fun q1 q2 q3 => by
    rw [decide_eq_true q1, decide_eq_true q2, Bool.true_and, Bool.true_and] at hR
    have : (decide (zTe S i = zTe S j) || (decide (zSe S i < zSe S j) && decide (zTe S j < zTe S i) || decide (zSe S j < zSe S i) && decide (zTe S i < zTe S j))) = true := by simp; omega
    rw [this] at hR
    exact hR
  have hR0 : (i = j ∨ zVr S i ≠ zVr S j ∨ ¬ (zTe S i = zTe S j ∨ (zSe S i < zSe S j ∧ zTe S j < zTe S i) ∨ (zSe S j < zSe S i ∧ zTe S i < zTe S j))) → R 0 I0 J0 := fun q => by
    have : (decide (i ≠ j) && (decide (zVr S i = zVr S j) && (decide (zTe S i = zTe S j) || (decide (zSe S i < zSe S j) && decide (zTe S j < zTe S i) || decide (zSe S j < zSe S i) && decide (zTe S i < zTe S j))))) = false := by
      rw [Bool.eq_false_iff]
      intro h
      simp at h
      omega
    rw [this] at hR
    exact hR
  (repeat' (first | exact hvi | exact hvj | apply And.intro | intro _)) <;> (first | (apply hR0; omega) | (apply hR1 <;> omega))
set_option maxHeartbeats 4000000 in
set_option maxRecDepth 100000 in
theorem C_M_clash (l : Launch) (D : va_G) (ca : Nat → Nat) (ad : Nat → Nat) (S : mI) (I0 : mI) (J0 : mJ) (a1 : Int32) (a2 : Int32)  (hp : pM_clash S I0 J0 a1 a2) : Met l yM_clash wM_clash ({ frames := 0, cells := 0, slots := 0, locals := 0 } : Room) (va_Pc [.ref (ad 0), .int a1, .int a2] (mPre D vwCl (xty ca) 23 ad (ymk ca ad) nL I0 J0)) (mQi D vwCl 23 ad (ymk ca ad) (fun r I' J' => r = fM_clash S I0 J0 a1 a2 ∧ I' = I0 ∧ J' = J0)) 0 0 (mA 23 ad) := by
  refine Met.ofW (cc := cM_clash) (maxL := 5) (ret := (some .boolean)) (by decide) rfl ?_
  intro p e s m args below meth c s₁ B hml hv
  obtain ⟨rfl, hP, hK, hD0, hN⟩ := hv
  have hx := B.exec
  have hb := B.bytes
  have hr := B.returns
  have htb : ∀ w ∈ wb, w.before _ s = true := fun w h => atoms_spec (ws := wM_clash) B.pre w (List.mem_cons_of_mem _ h)
  have hown : s.vm.findClass RM = some m.cls := findClass_of_methodNamed B.named
  have hlk := B.notSynchronized
  have hD := mw_Dm hD0
  have hS : va_S (mA 23 ad) s.heap s.heap [] := va_S.rf
  have hl := lv_entry ([.ref (ad 0), .int a1, .int a2]) (n := 5) (Nat.le_of_ble_eq_true rfl)
  rw [lg_entry_eq]
  generalize (lg_sl ([.ref (ad 0), .int a1, .int a2]) ++ List.replicate (5 - (lg_sl ([.ref (ad 0), .int a1, .int a2])).length) Slot.unset).toArray = ls at hl ⊢
  have hl : lv_has ls 5 [(0, .ref (ad 0)), (1, .int a1), (2, .int a2)] := hl
  have h := P_M_clash S I0 J0 a1 a2  hp  (fun r I' J' => r = fM_clash S I0 J0 a1 a2 ∧ I' = I0 ∧ J' = J0)  ⟨rfl, rfl, rfl⟩
  unfold wp_M_clash at h
  refine lv_iload_n hx hb dM_clash_0 rfl (lv_at hl 1 rfl) ?_
  refine lv_iload_n hx hb dM_clash_1 rfl (lv_at hl 2 rfl) ?_
  refine lv_icmp_eq (tgt := 20) hx hb dM_clash_2 (by decide) (fun hc => ?_) (fun hc => ?_)
  · have h := h.1 hc
    refine lv_iconst (v := 0) hx hb dM_clash_20 (by decide) ?_
    exact me_z hx hb hr hlk hP hS rfl h dM_clash_21
  · have h := h.2 hc
    refine lv_aload_n hx hb dM_clash_5 rfl (lv_at hl 0 rfl) ?_
    refine va_get (D := D) (ci := 6) (v := .ref (ad 7)) (C := RM) (T := TM) (N := 33) hx hb htb inM hown hK hP 0 (mw_at (by decide) (ym_0 _ _ _ _)) rfl 12 (by decide) (htb _ k2_184) (fun _ h9 => h9) rfl dM_clash_6 ?_
    refine lv_iload_n hx hb dM_clash_9 rfl (lv_at hl 1 rfl) ?_
    obtain ⟨hn1, h⟩ := h
    refine mr_iald hx hb hK hP 7 0 (by decide) rfl rfl hn1 dM_clash_10 ?_
    refine lv_aload_n hx hb dM_clash_11 rfl (lv_at hl 0 rfl) ?_
    refine va_get (D := D) (ci := 6) (v := .ref (ad 7)) (C := RM) (T := TM) (N := 33) hx hb htb inM hown hK hP 0 (mw_at (by decide) (ym_0 _ _ _ _)) rfl 12 (by decide) (htb _ k2_184) (fun _ h9 => h9) rfl dM_clash_12 ?_
    refine lv_iload_n hx hb dM_clash_15 rfl (lv_at hl 2 rfl) ?_
    obtain ⟨hn2, h⟩ := h
    refine mr_iald hx hb hK hP 7 0 (by decide) rfl rfl hn2 dM_clash_16 ?_
    refine lv_icmp_eq (tgt := 22) hx hb dM_clash_17 (by decide) (fun hc => ?_) (fun hc => ?_)
    · have h := h.1 hc
      refine lv_aload_n hx hb dM_clash_22 rfl (lv_at hl 0 rfl) ?_
      refine va_get (D := D) (ci := 6) (v := .ref (ad 10)) (C := RM) (T := TM) (N := 33) hx hb htb inM hown hK hP 0 (mw_at (by decide) (ym_0 _ _ _ _)) rfl 15 (by decide) (htb _ k2_187) (fun _ h9 => h9) rfl dM_clash_23 ?_
      refine lv_iload_n hx hb dM_clash_26 rfl (lv_at hl 1 rfl) ?_
      obtain ⟨hn3, h⟩ := h
      refine mr_iald hx hb hK hP 10 0 (by decide) rfl rfl hn3 dM_clash_27 ?_
      refine lv_aload_n hx hb dM_clash_28 rfl (lv_at hl 0 rfl) ?_
      refine va_get (D := D) (ci := 6) (v := .ref (ad 10)) (C := RM) (T := TM) (N := 33) hx hb htb inM hown hK hP 0 (mw_at (by decide) (ym_0 _ _ _ _)) rfl 15 (by decide) (htb _ k2_187) (fun _ h9 => h9) rfl dM_clash_29 ?_
      refine lv_iload_n hx hb dM_clash_32 rfl (lv_at hl 2 rfl) ?_
      obtain ⟨hn4, h⟩ := h
      refine mr_iald hx hb hK hP 10 0 (by decide) rfl rfl hn4 dM_clash_33 ?_
      refine lv_icmp_ge (tgt := 56) hx hb dM_clash_34 (by decide) (fun hc => ?_) (fun hc => ?_)
      · have h := h.1 hc
        refine lv_iconst (v := 0) hx hb dM_clash_56 (by decide) ?_
        refine lv_istore_n (lv' := [(3, .int 0), (0, .ref (ad 0)), (1, .int a1), (2, .int a2)]) hx hb dM_clash_57 rfl hl (by decide) rfl (fun ls hl => ?_)
        refine lv_aload_n hx hb dM_clash_58 rfl (lv_at hl 1 rfl) ?_
        refine va_get (D := D) (ci := 6) (v := .ref (ad 10)) (C := RM) (T := TM) (N := 33) hx hb htb inM hown hK hP 0 (mw_at (by decide) (ym_0 _ _ _ _)) rfl 15 (by decide) (htb _ k2_187) (fun _ h9 => h9) rfl dM_clash_59 ?_
        refine lv_iload_n hx hb dM_clash_62 rfl (lv_at hl 3 rfl) ?_
        obtain ⟨hn5, h⟩ := h
        refine mr_iald hx hb hK hP 10 0 (by decide) rfl rfl hn5 dM_clash_63 ?_
        refine lv_aload_n hx hb dM_clash_64 rfl (lv_at hl 1 rfl) ?_
        refine va_get (D := D) (ci := 6) (v := .ref (ad 10)) (C := RM) (T := TM) (N := 33) hx hb htb inM hown hK hP 0 (mw_at (by decide) (ym_0 _ _ _ _)) rfl 15 (by decide) (htb _ k2_187) (fun _ h9 => h9) rfl dM_clash_65 ?_
        refine lv_iload_n hx hb dM_clash_68 rfl (lv_at hl 2 rfl) ?_
        obtain ⟨hn6, h⟩ := h
        refine mr_iald hx hb hK hP 10 0 (by decide) rfl rfl hn6 dM_clash_69 ?_
        refine lv_icmp_ge (tgt := 92) hx hb dM_clash_70 (by decide) (fun hc => ?_) (fun hc => ?_)
        · have h := h.1 hc
          refine lv_iconst (v := 0) hx hb dM_clash_92 (by decide) ?_
          refine lv_istore (lv' := [(4, .int 0), (3, .int 0), (0, .ref (ad 0)), (1, .int a1), (2, .int a2)]) hx hb dM_clash_93 hl (by decide) rfl (fun ls hl => ?_)
          refine lv_aload_n hx hb dM_clash_95 rfl (lv_at hl 2 rfl) ?_
          refine va_get (D := D) (ci := 6) (v := .ref (ad 12)) (C := RM) (T := TM) (N := 33) hx hb htb inM hown hK hP 0 (mw_at (by decide) (ym_0 _ _ _ _)) rfl 17 (by decide) (htb _ k2_189) (fun _ h9 => h9) rfl dM_clash_96 ?_
          refine lv_iload_n hx hb dM_clash_99 rfl (lv_at hl 3 rfl) ?_
          obtain ⟨hn7, h⟩ := h
          refine mr_iald hx hb hK hP 12 0 (by decide) rfl rfl hn7 dM_clash_100 ?_
          refine lv_aload_n hx hb dM_clash_101 rfl (lv_at hl 2 rfl) ?_
          refine va_get (D := D) (ci := 6) (v := .ref (ad 12)) (C := RM) (T := TM) (N := 33) hx hb htb inM hown hK hP 0 (mw_at (by decide) (ym_0 _ _ _ _)) rfl 17 (by decide) (htb _ k2_189) (fun _ h9 => h9) rfl dM_clash_102 ?_
          refine lv_iload_n hx hb dM_clash_105 rfl (lv_at hl 4 rfl) ?_
          obtain ⟨hn8, h⟩ := h
          refine mr_iald hx hb hK hP 12 0 (by decide) rfl rfl hn8 dM_clash_106 ?_
          refine lv_icmp_eq (tgt := 119) hx hb dM_clash_107 (by decide) (fun hc => ?_) (fun hc => ?_)
          · have h := h.1 hc
            refine lv_iconst (v := 1) hx hb dM_clash_119 (by decide) ?_
            refine lv_goto (tgt := 124) hx hb dM_clash_120 (by decide) ?_
            exact me_z hx hb hr hlk hP hS rfl h dM_clash_124
          · have h := h.2 hc
            refine lv_iload_n hx hb dM_clash_110 rfl (lv_at hl 1 rfl) ?_
            refine lv_if_ne (tgt := 119) hx hb dM_clash_111 (by decide) (fun hc => ?_) (fun hc => ?_)
            · first | exact absurd hc (by decide) | exact absurd (by decide) hc
            · skip
              refine lv_iload hx hb dM_clash_114 (lv_at hl 0 rfl) ?_
              refine lv_if_eq (tgt := 123) hx hb dM_clash_116 (by decide) (fun hc => ?_) (fun hc => ?_)
              · skip
                refine lv_iconst (v := 0) hx hb dM_clash_123 (by decide) ?_
                exact me_z hx hb hr hlk hP hS rfl h dM_clash_124
              · first | exact absurd hc (by decide) | exact absurd (by decide) hc
        · have h := h.2 hc
          refine lv_aload_n hx hb dM_clash_73 rfl (lv_at hl 1 rfl) ?_
          refine va_get (D := D) (ci := 6) (v := .ref (ad 12)) (C := RM) (T := TM) (N := 33) hx hb htb inM hown hK hP 0 (mw_at (by decide) (ym_0 _ _ _ _)) rfl 17 (by decide) (htb _ k2_189) (fun _ h9 => h9) rfl dM_clash_74 ?_
          refine lv_iload_n hx hb dM_clash_77 rfl (lv_at hl 3 rfl) ?_
          obtain ⟨hn9, h⟩ := h
          refine mr_iald hx hb hK hP 12 0 (by decide) rfl rfl hn9 dM_clash_78 ?_
          refine lv_aload_n hx hb dM_clash_79 rfl (lv_at hl 1 rfl) ?_
          refine va_get (D := D) (ci := 6) (v := .ref (ad 12)) (C := RM) (T := TM) (N := 33) hx hb htb inM hown hK hP 0 (mw_at (by decide) (ym_0 _ _ _ _)) rfl 17 (by decide) (htb _ k2_189) (fun _ h9 => h9) rfl dM_clash_80 ?_
          refine lv_iload_n hx hb dM_clash_83 rfl (lv_at hl 2 rfl) ?_
          obtain ⟨hn10, h⟩ := h
          refine mr_iald hx hb hK hP 12 0 (by decide) rfl rfl hn10 dM_clash_84 ?_
          refine lv_icmp_le (tgt := 92) hx hb dM_clash_85 (by decide) (fun hc => ?_) (fun hc => ?_)
          · have h := h.1 hc
            refine lv_iconst (v := 0) hx hb dM_clash_92 (by decide) ?_
            refine lv_istore (lv' := [(4, .int 0), (3, .int 0), (0, .ref (ad 0)), (1, .int a1), (2, .int a2)]) hx hb dM_clash_93 hl (by decide) rfl (fun ls hl => ?_)
            refine lv_aload_n hx hb dM_clash_95 rfl (lv_at hl 2 rfl) ?_
            refine va_get (D := D) (ci := 6) (v := .ref (ad 12)) (C := RM) (T := TM) (N := 33) hx hb htb inM hown hK hP 0 (mw_at (by decide) (ym_0 _ _ _ _)) rfl 17 (by decide) (htb _ k2_189) (fun _ h9 => h9) rfl dM_clash_96 ?_
            refine lv_iload_n hx hb dM_clash_99 rfl (lv_at hl 3 rfl) ?_
            obtain ⟨hn11, h⟩ := h
            refine mr_iald hx hb hK hP 12 0 (by decide) rfl rfl hn11 dM_clash_100 ?_
            refine lv_aload_n hx hb dM_clash_101 rfl (lv_at hl 2 rfl) ?_
            refine va_get (D := D) (ci := 6) (v := .ref (ad 12)) (C := RM) (T := TM) (N := 33) hx hb htb inM hown hK hP 0 (mw_at (by decide) (ym_0 _ _ _ _)) rfl 17 (by decide) (htb _ k2_189) (fun _ h9 => h9) rfl dM_clash_102 ?_
            refine lv_iload_n hx hb dM_clash_105 rfl (lv_at hl 4 rfl) ?_
            obtain ⟨hn12, h⟩ := h
            refine mr_iald hx hb hK hP 12 0 (by decide) rfl rfl hn12 dM_clash_106 ?_
            refine lv_icmp_eq (tgt := 119) hx hb dM_clash_107 (by decide) (fun hc => ?_) (fun hc => ?_)
            · have h := h.1 hc
              refine lv_iconst (v := 1) hx hb dM_clash_119 (by decide) ?_
              refine lv_goto (tgt := 124) hx hb dM_clash_120 (by decide) ?_
              exact me_z hx hb hr hlk hP hS rfl h dM_clash_124
            · have h := h.2 hc
              refine lv_iload_n hx hb dM_clash_110 rfl (lv_at hl 1 rfl) ?_
              refine lv_if_ne (tgt := 119) hx hb dM_clash_111 (by decide) (fun hc => ?_) (fun hc => ?_)
              · first | exact absurd hc (by decide) | exact absurd (by decide) hc
              · skip
                refine lv_iload hx hb dM_clash_114 (lv_at hl 0 rfl) ?_
                refine lv_if_eq (tgt := 123) hx hb dM_clash_116 (by decide) (fun hc => ?_) (fun hc => ?_)
                · skip
                  refine lv_iconst (v := 0) hx hb dM_clash_123 (by decide) ?_
                  exact me_z hx hb hr hlk hP hS rfl h dM_clash_124
                · first | exact absurd hc (by decide) | exact absurd (by decide) hc
          · have h := h.2 hc
            refine lv_iconst (v := 1) hx hb dM_clash_88 (by decide) ?_
            refine lv_goto (tgt := 93) hx hb dM_clash_89 (by decide) ?_
            refine lv_istore (lv' := [(4, .int 1), (3, .int 0), (0, .ref (ad 0)), (1, .int a1), (2, .int a2)]) hx hb dM_clash_93 hl (by decide) rfl (fun ls hl => ?_)
            refine lv_aload_n hx hb dM_clash_95 rfl (lv_at hl 2 rfl) ?_
            refine va_get (D := D) (ci := 6) (v := .ref (ad 12)) (C := RM) (T := TM) (N := 33) hx hb htb inM hown hK hP 0 (mw_at (by decide) (ym_0 _ _ _ _)) rfl 17 (by decide) (htb _ k2_189) (fun _ h9 => h9) rfl dM_clash_96 ?_
            refine lv_iload_n hx hb dM_clash_99 rfl (lv_at hl 3 rfl) ?_
            obtain ⟨hn13, h⟩ := h
            refine mr_iald hx hb hK hP 12 0 (by decide) rfl rfl hn13 dM_clash_100 ?_
            refine lv_aload_n hx hb dM_clash_101 rfl (lv_at hl 2 rfl) ?_
            refine va_get (D := D) (ci := 6) (v := .ref (ad 12)) (C := RM) (T := TM) (N := 33) hx hb htb inM hown hK hP 0 (mw_at (by decide) (ym_0 _ _ _ _)) rfl 17 (by decide) (htb _ k2_189) (fun _ h9 => h9) rfl dM_clash_102 ?_
            refine lv_iload_n hx hb dM_clash_105 rfl (lv_at hl 4 rfl) ?_
            obtain ⟨hn14, h⟩ := h
            refine mr_iald hx hb hK hP 12 0 (by decide) rfl rfl hn14 dM_clash_106 ?_
            refine lv_icmp_eq (tgt := 119) hx hb dM_clash_107 (by decide) (fun hc => ?_) (fun hc => ?_)
            · have h := h.1 hc
              refine lv_iconst (v := 1) hx hb dM_clash_119 (by decide) ?_
              refine lv_goto (tgt := 124) hx hb dM_clash_120 (by decide) ?_
              exact me_z hx hb hr hlk hP hS rfl h dM_clash_124
            · have h := h.2 hc
              refine lv_iload_n hx hb dM_clash_110 rfl (lv_at hl 1 rfl) ?_
              refine lv_if_ne (tgt := 119) hx hb dM_clash_111 (by decide) (fun hc => ?_) (fun hc => ?_)
              · first | exact absurd hc (by decide) | exact absurd (by decide) hc
              · skip
                refine lv_iload hx hb dM_clash_114 (lv_at hl 0 rfl) ?_
                refine lv_if_eq (tgt := 123) hx hb dM_clash_116 (by decide) (fun hc => ?_) (fun hc => ?_)
                · first | exact absurd hc (by decide) | exact absurd (by decide) hc
                · skip
                  refine lv_iconst (v := 1) hx hb dM_clash_119 (by decide) ?_
                  refine lv_goto (tgt := 124) hx hb dM_clash_120 (by decide) ?_
                  exact me_z hx hb hr hlk hP hS rfl h dM_clash_124
      · have h := h.2 hc
        refine lv_aload_n hx hb dM_clash_37 rfl (lv_at hl 0 rfl) ?_
        refine va_get (D := D) (ci := 6) (v := .ref (ad 12)) (C := RM) (T := TM) (N := 33) hx hb htb inM hown hK hP 0 (mw_at (by decide) (ym_0 _ _ _ _)) rfl 17 (by decide) (htb _ k2_189) (fun _ h9 => h9) rfl dM_clash_38 ?_
        refine lv_iload_n hx hb dM_clash_41 rfl (lv_at hl 1 rfl) ?_
        obtain ⟨hn15, h⟩ := h
        refine mr_iald hx hb hK hP 12 0 (by decide) rfl rfl hn15 dM_clash_42 ?_
        refine lv_aload_n hx hb dM_clash_43 rfl (lv_at hl 0 rfl) ?_
        refine va_get (D := D) (ci := 6) (v := .ref (ad 12)) (C := RM) (T := TM) (N := 33) hx hb htb inM hown hK hP 0 (mw_at (by decide) (ym_0 _ _ _ _)) rfl 17 (by decide) (htb _ k2_189) (fun _ h9 => h9) rfl dM_clash_44 ?_
        refine lv_iload_n hx hb dM_clash_47 rfl (lv_at hl 2 rfl) ?_
        obtain ⟨hn16, h⟩ := h
        refine mr_iald hx hb hK hP 12 0 (by decide) rfl rfl hn16 dM_clash_48 ?_
        refine lv_icmp_le (tgt := 56) hx hb dM_clash_49 (by decide) (fun hc => ?_) (fun hc => ?_)
        · have h := h.1 hc
          refine lv_iconst (v := 0) hx hb dM_clash_56 (by decide) ?_
          refine lv_istore_n (lv' := [(3, .int 0), (0, .ref (ad 0)), (1, .int a1), (2, .int a2)]) hx hb dM_clash_57 rfl hl (by decide) rfl (fun ls hl => ?_)
          refine lv_aload_n hx hb dM_clash_58 rfl (lv_at hl 1 rfl) ?_
          refine va_get (D := D) (ci := 6) (v := .ref (ad 10)) (C := RM) (T := TM) (N := 33) hx hb htb inM hown hK hP 0 (mw_at (by decide) (ym_0 _ _ _ _)) rfl 15 (by decide) (htb _ k2_187) (fun _ h9 => h9) rfl dM_clash_59 ?_
          refine lv_iload_n hx hb dM_clash_62 rfl (lv_at hl 3 rfl) ?_
          obtain ⟨hn17, h⟩ := h
          refine mr_iald hx hb hK hP 10 0 (by decide) rfl rfl hn17 dM_clash_63 ?_
          refine lv_aload_n hx hb dM_clash_64 rfl (lv_at hl 1 rfl) ?_
          refine va_get (D := D) (ci := 6) (v := .ref (ad 10)) (C := RM) (T := TM) (N := 33) hx hb htb inM hown hK hP 0 (mw_at (by decide) (ym_0 _ _ _ _)) rfl 15 (by decide) (htb _ k2_187) (fun _ h9 => h9) rfl dM_clash_65 ?_
          refine lv_iload_n hx hb dM_clash_68 rfl (lv_at hl 2 rfl) ?_
          obtain ⟨hn18, h⟩ := h
          refine mr_iald hx hb hK hP 10 0 (by decide) rfl rfl hn18 dM_clash_69 ?_
          refine lv_icmp_ge (tgt := 92) hx hb dM_clash_70 (by decide) (fun hc => ?_) (fun hc => ?_)
          · have h := h.1 hc
            refine lv_iconst (v := 0) hx hb dM_clash_92 (by decide) ?_
            refine lv_istore (lv' := [(4, .int 0), (3, .int 0), (0, .ref (ad 0)), (1, .int a1), (2, .int a2)]) hx hb dM_clash_93 hl (by decide) rfl (fun ls hl => ?_)
            refine lv_aload_n hx hb dM_clash_95 rfl (lv_at hl 2 rfl) ?_
            refine va_get (D := D) (ci := 6) (v := .ref (ad 12)) (C := RM) (T := TM) (N := 33) hx hb htb inM hown hK hP 0 (mw_at (by decide) (ym_0 _ _ _ _)) rfl 17 (by decide) (htb _ k2_189) (fun _ h9 => h9) rfl dM_clash_96 ?_
            refine lv_iload_n hx hb dM_clash_99 rfl (lv_at hl 3 rfl) ?_
            obtain ⟨hn19, h⟩ := h
            refine mr_iald hx hb hK hP 12 0 (by decide) rfl rfl hn19 dM_clash_100 ?_
            refine lv_aload_n hx hb dM_clash_101 rfl (lv_at hl 2 rfl) ?_
            refine va_get (D := D) (ci := 6) (v := .ref (ad 12)) (C := RM) (T := TM) (N := 33) hx hb htb inM hown hK hP 0 (mw_at (by decide) (ym_0 _ _ _ _)) rfl 17 (by decide) (htb _ k2_189) (fun _ h9 => h9) rfl dM_clash_102 ?_
            refine lv_iload_n hx hb dM_clash_105 rfl (lv_at hl 4 rfl) ?_
            obtain ⟨hn20, h⟩ := h
            refine mr_iald hx hb hK hP 12 0 (by decide) rfl rfl hn20 dM_clash_106 ?_
            refine lv_icmp_eq (tgt := 119) hx hb dM_clash_107 (by decide) (fun hc => ?_) (fun hc => ?_)
            · have h := h.1 hc
              refine lv_iconst (v := 1) hx hb dM_clash_119 (by decide) ?_
              refine lv_goto (tgt := 124) hx hb dM_clash_120 (by decide) ?_
              exact me_z hx hb hr hlk hP hS rfl h dM_clash_124
            · have h := h.2 hc
              refine lv_iload_n hx hb dM_clash_110 rfl (lv_at hl 1 rfl) ?_
              refine lv_if_ne (tgt := 119) hx hb dM_clash_111 (by decide) (fun hc => ?_) (fun hc => ?_)
              · first | exact absurd hc (by decide) | exact absurd (by decide) hc
              · skip
                refine lv_iload hx hb dM_clash_114 (lv_at hl 0 rfl) ?_
                refine lv_if_eq (tgt := 123) hx hb dM_clash_116 (by decide) (fun hc => ?_) (fun hc => ?_)
                · skip
                  refine lv_iconst (v := 0) hx hb dM_clash_123 (by decide) ?_
                  exact me_z hx hb hr hlk hP hS rfl h dM_clash_124
                · first | exact absurd hc (by decide) | exact absurd (by decide) hc
          · have h := h.2 hc
            refine lv_aload_n hx hb dM_clash_73 rfl (lv_at hl 1 rfl) ?_
            refine va_get (D := D) (ci := 6) (v := .ref (ad 12)) (C := RM) (T := TM) (N := 33) hx hb htb inM hown hK hP 0 (mw_at (by decide) (ym_0 _ _ _ _)) rfl 17 (by decide) (htb _ k2_189) (fun _ h9 => h9) rfl dM_clash_74 ?_
            refine lv_iload_n hx hb dM_clash_77 rfl (lv_at hl 3 rfl) ?_
            obtain ⟨hn21, h⟩ := h
            refine mr_iald hx hb hK hP 12 0 (by decide) rfl rfl hn21 dM_clash_78 ?_
            refine lv_aload_n hx hb dM_clash_79 rfl (lv_at hl 1 rfl) ?_
            refine va_get (D := D) (ci := 6) (v := .ref (ad 12)) (C := RM) (T := TM) (N := 33) hx hb htb inM hown hK hP 0 (mw_at (by decide) (ym_0 _ _ _ _)) rfl 17 (by decide) (htb _ k2_189) (fun _ h9 => h9) rfl dM_clash_80 ?_
            refine lv_iload_n hx hb dM_clash_83 rfl (lv_at hl 2 rfl) ?_
            obtain ⟨hn22, h⟩ := h
            refine mr_iald hx hb hK hP 12 0 (by decide) rfl rfl hn22 dM_clash_84 ?_
            refine lv_icmp_le (tgt := 92) hx hb dM_clash_85 (by decide) (fun hc => ?_) (fun hc => ?_)
            · have h := h.1 hc
              refine lv_iconst (v := 0) hx hb dM_clash_92 (by decide) ?_
              refine lv_istore (lv' := [(4, .int 0), (3, .int 0), (0, .ref (ad 0)), (1, .int a1), (2, .int a2)]) hx hb dM_clash_93 hl (by decide) rfl (fun ls hl => ?_)
              refine lv_aload_n hx hb dM_clash_95 rfl (lv_at hl 2 rfl) ?_
              refine va_get (D := D) (ci := 6) (v := .ref (ad 12)) (C := RM) (T := TM) (N := 33) hx hb htb inM hown hK hP 0 (mw_at (by decide) (ym_0 _ _ _ _)) rfl 17 (by decide) (htb _ k2_189) (fun _ h9 => h9) rfl dM_clash_96 ?_
              refine lv_iload_n hx hb dM_clash_99 rfl (lv_at hl 3 rfl) ?_
              obtain ⟨hn23, h⟩ := h
              refine mr_iald hx hb hK hP 12 0 (by decide) rfl rfl hn23 dM_clash_100 ?_
              refine lv_aload_n hx hb dM_clash_101 rfl (lv_at hl 2 rfl) ?_
              refine va_get (D := D) (ci := 6) (v := .ref (ad 12)) (C := RM) (T := TM) (N := 33) hx hb htb inM hown hK hP 0 (mw_at (by decide) (ym_0 _ _ _ _)) rfl 17 (by decide) (htb _ k2_189) (fun _ h9 => h9) rfl dM_clash_102 ?_
              refine lv_iload_n hx hb dM_clash_105 rfl (lv_at hl 4 rfl) ?_
              obtain ⟨hn24, h⟩ := h
              refine mr_iald hx hb hK hP 12 0 (by decide) rfl rfl hn24 dM_clash_106 ?_
              refine lv_icmp_eq (tgt := 119) hx hb dM_clash_107 (by decide) (fun hc => ?_) (fun hc => ?_)
              · have h := h.1 hc
                refine lv_iconst (v := 1) hx hb dM_clash_119 (by decide) ?_
                refine lv_goto (tgt := 124) hx hb dM_clash_120 (by decide) ?_
                exact me_z hx hb hr hlk hP hS rfl h dM_clash_124
              · have h := h.2 hc
                refine lv_iload_n hx hb dM_clash_110 rfl (lv_at hl 1 rfl) ?_
                refine lv_if_ne (tgt := 119) hx hb dM_clash_111 (by decide) (fun hc => ?_) (fun hc => ?_)
                · first | exact absurd hc (by decide) | exact absurd (by decide) hc
                · skip
                  refine lv_iload hx hb dM_clash_114 (lv_at hl 0 rfl) ?_
                  refine lv_if_eq (tgt := 123) hx hb dM_clash_116 (by decide) (fun hc => ?_) (fun hc => ?_)
                  · skip
                    refine lv_iconst (v := 0) hx hb dM_clash_123 (by decide) ?_
                    exact me_z hx hb hr hlk hP hS rfl h dM_clash_124
                  · first | exact absurd hc (by decide) | exact absurd (by decide) hc
            · have h := h.2 hc
              refine lv_iconst (v := 1) hx hb dM_clash_88 (by decide) ?_
              refine lv_goto (tgt := 93) hx hb dM_clash_89 (by decide) ?_
              refine lv_istore (lv' := [(4, .int 1), (3, .int 0), (0, .ref (ad 0)), (1, .int a1), (2, .int a2)]) hx hb dM_clash_93 hl (by decide) rfl (fun ls hl => ?_)
              refine lv_aload_n hx hb dM_clash_95 rfl (lv_at hl 2 rfl) ?_
              refine va_get (D := D) (ci := 6) (v := .ref (ad 12)) (C := RM) (T := TM) (N := 33) hx hb htb inM hown hK hP 0 (mw_at (by decide) (ym_0 _ _ _ _)) rfl 17 (by decide) (htb _ k2_189) (fun _ h9 => h9) rfl dM_clash_96 ?_
              refine lv_iload_n hx hb dM_clash_99 rfl (lv_at hl 3 rfl) ?_
              obtain ⟨hn25, h⟩ := h
              refine mr_iald hx hb hK hP 12 0 (by decide) rfl rfl hn25 dM_clash_100 ?_
              refine lv_aload_n hx hb dM_clash_101 rfl (lv_at hl 2 rfl) ?_
              refine va_get (D := D) (ci := 6) (v := .ref (ad 12)) (C := RM) (T := TM) (N := 33) hx hb htb inM hown hK hP 0 (mw_at (by decide) (ym_0 _ _ _ _)) rfl 17 (by decide) (htb _ k2_189) (fun _ h9 => h9) rfl dM_clash_102 ?_
              refine lv_iload_n hx hb dM_clash_105 rfl (lv_at hl 4 rfl) ?_
              obtain ⟨hn26, h⟩ := h
              refine mr_iald hx hb hK hP 12 0 (by decide) rfl rfl hn26 dM_clash_106 ?_
              refine lv_icmp_eq (tgt := 119) hx hb dM_clash_107 (by decide) (fun hc => ?_) (fun hc => ?_)
              · have h := h.1 hc
                refine lv_iconst (v := 1) hx hb dM_clash_119 (by decide) ?_
                refine lv_goto (tgt := 124) hx hb dM_clash_120 (by decide) ?_
                exact me_z hx hb hr hlk hP hS rfl h dM_clash_124
              · have h := h.2 hc
                refine lv_iload_n hx hb dM_clash_110 rfl (lv_at hl 1 rfl) ?_
                refine lv_if_ne (tgt := 119) hx hb dM_clash_111 (by decide) (fun hc => ?_) (fun hc => ?_)
                · first | exact absurd hc (by decide) | exact absurd (by decide) hc
                · skip
                  refine lv_iload hx hb dM_clash_114 (lv_at hl 0 rfl) ?_
                  refine lv_if_eq (tgt := 123) hx hb dM_clash_116 (by decide) (fun hc => ?_) (fun hc => ?_)
                  · first | exact absurd hc (by decide) | exact absurd (by decide) hc
                  · skip
                    refine lv_iconst (v := 1) hx hb dM_clash_119 (by decide) ?_
                    refine lv_goto (tgt := 124) hx hb dM_clash_120 (by decide) ?_
                    exact me_z hx hb hr hlk hP hS rfl h dM_clash_124
        · have h := h.2 hc
          refine lv_iconst (v := 1) hx hb dM_clash_52 (by decide) ?_
          refine lv_goto (tgt := 57) hx hb dM_clash_53 (by decide) ?_
          refine lv_istore_n (lv' := [(3, .int 1), (0, .ref (ad 0)), (1, .int a1), (2, .int a2)]) hx hb dM_clash_57 rfl hl (by decide) rfl (fun ls hl => ?_)
          refine lv_aload_n hx hb dM_clash_58 rfl (lv_at hl 1 rfl) ?_
          refine va_get (D := D) (ci := 6) (v := .ref (ad 10)) (C := RM) (T := TM) (N := 33) hx hb htb inM hown hK hP 0 (mw_at (by decide) (ym_0 _ _ _ _)) rfl 15 (by decide) (htb _ k2_187) (fun _ h9 => h9) rfl dM_clash_59 ?_
          refine lv_iload_n hx hb dM_clash_62 rfl (lv_at hl 3 rfl) ?_
          obtain ⟨hn27, h⟩ := h
          refine mr_iald hx hb hK hP 10 0 (by decide) rfl rfl hn27 dM_clash_63 ?_
          refine lv_aload_n hx hb dM_clash_64 rfl (lv_at hl 1 rfl) ?_
          refine va_get (D := D) (ci := 6) (v := .ref (ad 10)) (C := RM) (T := TM) (N := 33) hx hb htb inM hown hK hP 0 (mw_at (by decide) (ym_0 _ _ _ _)) rfl 15 (by decide) (htb _ k2_187) (fun _ h9 => h9) rfl dM_clash_65 ?_
          refine lv_iload_n hx hb dM_clash_68 rfl (lv_at hl 2 rfl) ?_
          obtain ⟨hn28, h⟩ := h
          refine mr_iald hx hb hK hP 10 0 (by decide) rfl rfl hn28 dM_clash_69 ?_
          refine lv_icmp_ge (tgt := 92) hx hb dM_clash_70 (by decide) (fun hc => ?_) (fun hc => ?_)
          · have h := h.1 hc
            refine lv_iconst (v := 0) hx hb dM_clash_92 (by decide) ?_
            refine lv_istore (lv' := [(4, .int 0), (3, .int 1), (0, .ref (ad 0)), (1, .int a1), (2, .int a2)]) hx hb dM_clash_93 hl (by decide) rfl (fun ls hl => ?_)
            refine lv_aload_n hx hb dM_clash_95 rfl (lv_at hl 2 rfl) ?_
            refine va_get (D := D) (ci := 6) (v := .ref (ad 12)) (C := RM) (T := TM) (N := 33) hx hb htb inM hown hK hP 0 (mw_at (by decide) (ym_0 _ _ _ _)) rfl 17 (by decide) (htb _ k2_189) (fun _ h9 => h9) rfl dM_clash_96 ?_
            refine lv_iload_n hx hb dM_clash_99 rfl (lv_at hl 3 rfl) ?_
            obtain ⟨hn29, h⟩ := h
            refine mr_iald hx hb hK hP 12 0 (by decide) rfl rfl hn29 dM_clash_100 ?_
            refine lv_aload_n hx hb dM_clash_101 rfl (lv_at hl 2 rfl) ?_
            refine va_get (D := D) (ci := 6) (v := .ref (ad 12)) (C := RM) (T := TM) (N := 33) hx hb htb inM hown hK hP 0 (mw_at (by decide) (ym_0 _ _ _ _)) rfl 17 (by decide) (htb _ k2_189) (fun _ h9 => h9) rfl dM_clash_102 ?_
            refine lv_iload_n hx hb dM_clash_105 rfl (lv_at hl 4 rfl) ?_
            obtain ⟨hn30, h⟩ := h
            refine mr_iald hx hb hK hP 12 0 (by decide) rfl rfl hn30 dM_clash_106 ?_
            refine lv_icmp_eq (tgt := 119) hx hb dM_clash_107 (by decide) (fun hc => ?_) (fun hc => ?_)
            · have h := h.1 hc
              refine lv_iconst (v := 1) hx hb dM_clash_119 (by decide) ?_
              refine lv_goto (tgt := 124) hx hb dM_clash_120 (by decide) ?_
              exact me_z hx hb hr hlk hP hS rfl h dM_clash_124
            · have h := h.2 hc
              refine lv_iload_n hx hb dM_clash_110 rfl (lv_at hl 1 rfl) ?_
              refine lv_if_ne (tgt := 119) hx hb dM_clash_111 (by decide) (fun hc => ?_) (fun hc => ?_)
              · skip
                refine lv_iconst (v := 1) hx hb dM_clash_119 (by decide) ?_
                refine lv_goto (tgt := 124) hx hb dM_clash_120 (by decide) ?_
                exact me_z hx hb hr hlk hP hS rfl h dM_clash_124
              · first | exact absurd hc (by decide) | exact absurd (by decide) hc
          · have h := h.2 hc
            refine lv_aload_n hx hb dM_clash_73 rfl (lv_at hl 1 rfl) ?_
            refine va_get (D := D) (ci := 6) (v := .ref (ad 12)) (C := RM) (T := TM) (N := 33) hx hb htb inM hown hK hP 0 (mw_at (by decide) (ym_0 _ _ _ _)) rfl 17 (by decide) (htb _ k2_189) (fun _ h9 => h9) rfl dM_clash_74 ?_
            refine lv_iload_n hx hb dM_clash_77 rfl (lv_at hl 3 rfl) ?_
            obtain ⟨hn31, h⟩ := h
            refine mr_iald hx hb hK hP 12 0 (by decide) rfl rfl hn31 dM_clash_78 ?_
            refine lv_aload_n hx hb dM_clash_79 rfl (lv_at hl 1 rfl) ?_
            refine va_get (D := D) (ci := 6) (v := .ref (ad 12)) (C := RM) (T := TM) (N := 33) hx hb htb inM hown hK hP 0 (mw_at (by decide) (ym_0 _ _ _ _)) rfl 17 (by decide) (htb _ k2_189) (fun _ h9 => h9) rfl dM_clash_80 ?_
            refine lv_iload_n hx hb dM_clash_83 rfl (lv_at hl 2 rfl) ?_
            obtain ⟨hn32, h⟩ := h
            refine mr_iald hx hb hK hP 12 0 (by decide) rfl rfl hn32 dM_clash_84 ?_
            refine lv_icmp_le (tgt := 92) hx hb dM_clash_85 (by decide) (fun hc => ?_) (fun hc => ?_)
            · have h := h.1 hc
              refine lv_iconst (v := 0) hx hb dM_clash_92 (by decide) ?_
              refine lv_istore (lv' := [(4, .int 0), (3, .int 1), (0, .ref (ad 0)), (1, .int a1), (2, .int a2)]) hx hb dM_clash_93 hl (by decide) rfl (fun ls hl => ?_)
              refine lv_aload_n hx hb dM_clash_95 rfl (lv_at hl 2 rfl) ?_
              refine va_get (D := D) (ci := 6) (v := .ref (ad 12)) (C := RM) (T := TM) (N := 33) hx hb htb inM hown hK hP 0 (mw_at (by decide) (ym_0 _ _ _ _)) rfl 17 (by decide) (htb _ k2_189) (fun _ h9 => h9) rfl dM_clash_96 ?_
              refine lv_iload_n hx hb dM_clash_99 rfl (lv_at hl 3 rfl) ?_
              obtain ⟨hn33, h⟩ := h
              refine mr_iald hx hb hK hP 12 0 (by decide) rfl rfl hn33 dM_clash_100 ?_
              refine lv_aload_n hx hb dM_clash_101 rfl (lv_at hl 2 rfl) ?_
              refine va_get (D := D) (ci := 6) (v := .ref (ad 12)) (C := RM) (T := TM) (N := 33) hx hb htb inM hown hK hP 0 (mw_at (by decide) (ym_0 _ _ _ _)) rfl 17 (by decide) (htb _ k2_189) (fun _ h9 => h9) rfl dM_clash_102 ?_
              refine lv_iload_n hx hb dM_clash_105 rfl (lv_at hl 4 rfl) ?_
              obtain ⟨hn34, h⟩ := h
              refine mr_iald hx hb hK hP 12 0 (by decide) rfl rfl hn34 dM_clash_106 ?_
              refine lv_icmp_eq (tgt := 119) hx hb dM_clash_107 (by decide) (fun hc => ?_) (fun hc => ?_)
              · have h := h.1 hc
                refine lv_iconst (v := 1) hx hb dM_clash_119 (by decide) ?_
                refine lv_goto (tgt := 124) hx hb dM_clash_120 (by decide) ?_
                exact me_z hx hb hr hlk hP hS rfl h dM_clash_124
              · have h := h.2 hc
                refine lv_iload_n hx hb dM_clash_110 rfl (lv_at hl 1 rfl) ?_
                refine lv_if_ne (tgt := 119) hx hb dM_clash_111 (by decide) (fun hc => ?_) (fun hc => ?_)
                · skip
                  refine lv_iconst (v := 1) hx hb dM_clash_119 (by decide) ?_
                  refine lv_goto (tgt := 124) hx hb dM_clash_120 (by decide) ?_
                  exact me_z hx hb hr hlk hP hS rfl h dM_clash_124
                · first | exact absurd hc (by decide) | exact absurd (by decide) hc
            · have h := h.2 hc
              refine lv_iconst (v := 1) hx hb dM_clash_88 (by decide) ?_
              refine lv_goto (tgt := 93) hx hb dM_clash_89 (by decide) ?_
              refine lv_istore (lv' := [(4, .int 1), (3, .int 1), (0, .ref (ad 0)), (1, .int a1), (2, .int a2)]) hx hb dM_clash_93 hl (by decide) rfl (fun ls hl => ?_)
              refine lv_aload_n hx hb dM_clash_95 rfl (lv_at hl 2 rfl) ?_
              refine va_get (D := D) (ci := 6) (v := .ref (ad 12)) (C := RM) (T := TM) (N := 33) hx hb htb inM hown hK hP 0 (mw_at (by decide) (ym_0 _ _ _ _)) rfl 17 (by decide) (htb _ k2_189) (fun _ h9 => h9) rfl dM_clash_96 ?_
              refine lv_iload_n hx hb dM_clash_99 rfl (lv_at hl 3 rfl) ?_
              obtain ⟨hn35, h⟩ := h
              refine mr_iald hx hb hK hP 12 0 (by decide) rfl rfl hn35 dM_clash_100 ?_
              refine lv_aload_n hx hb dM_clash_101 rfl (lv_at hl 2 rfl) ?_
              refine va_get (D := D) (ci := 6) (v := .ref (ad 12)) (C := RM) (T := TM) (N := 33) hx hb htb inM hown hK hP 0 (mw_at (by decide) (ym_0 _ _ _ _)) rfl 17 (by decide) (htb _ k2_189) (fun _ h9 => h9) rfl dM_clash_102 ?_
              refine lv_iload_n hx hb dM_clash_105 rfl (lv_at hl 4 rfl) ?_
              obtain ⟨hn36, h⟩ := h
              refine mr_iald hx hb hK hP 12 0 (by decide) rfl rfl hn36 dM_clash_106 ?_
              refine lv_icmp_eq (tgt := 119) hx hb dM_clash_107 (by decide) (fun hc => ?_) (fun hc => ?_)
              · have h := h.1 hc
                refine lv_iconst (v := 1) hx hb dM_clash_119 (by decide) ?_
                refine lv_goto (tgt := 124) hx hb dM_clash_120 (by decide) ?_
                exact me_z hx hb hr hlk hP hS rfl h dM_clash_124
              · have h := h.2 hc
                refine lv_iload_n hx hb dM_clash_110 rfl (lv_at hl 1 rfl) ?_
                refine lv_if_ne (tgt := 119) hx hb dM_clash_111 (by decide) (fun hc => ?_) (fun hc => ?_)
                · skip
                  refine lv_iconst (v := 1) hx hb dM_clash_119 (by decide) ?_
                  refine lv_goto (tgt := 124) hx hb dM_clash_120 (by decide) ?_
                  exact me_z hx hb hr hlk hP hS rfl h dM_clash_124
                · first | exact absurd hc (by decide) | exact absurd (by decide) hc
    · have h := h.2 hc
      refine lv_iconst (v := 0) hx hb dM_clash_20 (by decide) ?_
      exact me_z hx hb hr hlk hP hS rfl h dM_clash_21
def wp_M_forget_2 (K2 : mI → mJ → Int32 → Prop) (R : mI → mJ → Prop) (I : mI) (J : mJ)  (x1 : Int32) : Prop :=
  ((7 ≤ x1 → R I J) ∧ (¬ (7 ≤ x1) → (vp_in x1 7 ∧ (∀ (I2 : mI), I2 = mu I 20 x1.toNatClampNeg (vp_nar .boolean 0) → (vp_in x1 7 ∧ (∀ (I4 : mI), I4 = mu I2 21 x1.toNatClampNeg (vp_nar .boolean 0) → K2 I4 J (x1 + 1)))))))
def wp_M_forget (K2 : mI → mJ → Int32 → Prop) (R : mI → mJ → Prop) (I0 : mI) (J0 : mJ)  : Prop :=
  K2 I0 J0 0
theorem P_M_forget (I0 : mI) (J0 : mJ)    (K2 : mI → mJ → Int32 → Prop) (R : mI → mJ → Prop) (c2 : ∀ (I : mI) (J : mJ) (x1 : Int32), wp_M_forget_2 K2 R I J  x1 → K2 I J x1) (hR : ∀ (I' : mI) (J' : mJ), qM_forget I0 J0 I' J' → R I' J') : wp_M_forget K2 R I0 J0  := by
  have key : ∀ m v I, v + m = 7 → (∀ a, a ≠ 20 → a ≠ 21 → I a = I0 a) → (∀ w, w < v → I 20 w = 0 ∧ I 21 w = 0) → K2 I J0 (nI v) := by
    intro m
    induction m with
    | zero =>
      intro v I hv h1 h2
      have hv : v = 7 := by omega
      subst hv
      apply c2
      unfold wp_M_forget_2
      exact ⟨fun _ => hR _ _ ⟨rfl, h1, h2⟩, fun h => absurd (nI_le (a := 7) (b := 7) (Nat.le_refl _) (by omega)) h⟩
    | succ m ih =>
      intro v I hv h1 h2
      apply c2
      unfold wp_M_forget_2
      rw [show (nI v).toNatClampNeg = v from nI_clamp (by omega), nI_1, nar_0]
      refine ⟨fun h => absurd h (nI_ge (b := 7) (by omega) (by omega)), fun _ => ⟨i7_of (by omega), fun I2 e2 => ⟨i7_of (by omega), fun I4 e4 => ih (v + 1) I4 (by omega) (fun a ha hb => ?_) (fun w hw => ?_)⟩⟩⟩
      · rw [e4, mu_other _ _ _ hb, e2, mu_other _ _ _ ha]; exact h1 a ha hb
      · by_cases ew : w = v
        · subst ew
          exact ⟨by rw [e4, mu_other _ _ _ (by omega), e2, mu_at, if_pos ⟨rfl, rfl⟩], by rw [e4, mu_at, if_pos ⟨rfl, rfl⟩]⟩
        · obtain ⟨q1, q2⟩ := h2 w (by omega)
          exact ⟨by rw [e4, mu_other _ _ _ (by omega), e2, mu_at, if_neg (fun y => ew y.2)]; exact q1, by rw [e4, mu_at, if_neg (fun y => ew y.2), e2, mu_other _ _ _ (by omega)]; exact q2⟩
  exact key 7 0 I0 (by omega) (fun _ _ _ => rfl) (fun w hw => by omega)
set_option maxHeartbeats 4000000 in
set_option maxRecDepth 100000 in
theorem C_M_forget (l : Launch) (D : va_G) (ca : Nat → Nat) (ad : Nat → Nat) (I0 : mI) (J0 : mJ)    : Met l yM_forget wM_forget ({ frames := 0, cells := 0, slots := 0, locals := 0 } : Room) (va_Pc [.ref (ad 0)] (mPre D vwCl (xty ca) 23 ad (ymk ca ad) nL I0 J0)) (mQv D vwCl 23 ad (ymk ca ad) (qM_forget I0 J0)) 0 0 (mA 23 ad) := by
  refine Met.ofW (cc := cM_forget) (maxL := 2) (ret := none) (by decide) rfl ?_
  intro p e s m args below meth c s₁ B hml hv
  obtain ⟨rfl, hP, hK, hD0, hN⟩ := hv
  have hx := B.exec
  have hb := B.bytes
  have hr := B.returns
  have htb : ∀ w ∈ wb, w.before _ s = true := fun w h => atoms_spec (ws := wM_forget) B.pre w (List.mem_cons_of_mem _ h)
  have hown : s.vm.findClass RM = some m.cls := findClass_of_methodNamed B.named
  have hlk := B.notSynchronized
  have hD := mw_Dm hD0
  have hS : va_S (mA 23 ad) s.heap s.heap [] := va_S.rf
  have hl := lv_entry ([.ref (ad 0)]) (n := 2) (Nat.le_of_ble_eq_true rfl)
  rw [lg_entry_eq]
  generalize (lg_sl ([.ref (ad 0)]) ++ List.replicate (2 - (lg_sl ([.ref (ad 0)])).length) Slot.unset).toArray = ls at hl ⊢
  have hl : lv_has ls 2 [(0, .ref (ad 0))] := hl
  obtain ⟨K2, hK2⟩ : ∃ K : mI → mJ → Int32 → Prop, K = (fun I J x1 => ∀ (H : Heap) (locs : List Loc) (ls : Array Slot), va_P D vwCl (mw 23 ad (ymk ca ad) I J) H → va_S (mA 23 ad) s.heap H locs → lv_has ls 2 [(0, .ref (ad 0)), (1, .int x1)] → W p l e (headSpec wM_forget ({ frames := 0, cells := 0, slots := 0, locals := 0 } : Room)).room s m (([.ref (ad 0)] : List Value).toArray) below meth c H locs 0 0 (MQ below (mQv D vwCl 23 ad (ymk ca ad) (qM_forget I0 J0)) (([.ref (ad 0)] : List Value).toArray) s 0 0 (mA 23 ad)) (F0 m 2 ls [])) := ⟨_, rfl⟩
  have c2 : ∀ (I : mI) (J : mJ) (x1 : Int32), wp_M_forget_2 K2 (qM_forget I0 J0) I J  x1 → K2 I J x1 := by
    intro I J x1 h
    rw [hK2]
    intro H locs ls hP hS hl
    unfold wp_M_forget_2 at h
    refine lv_iload_n hx hb dM_forget_2 rfl (lv_at hl 1 rfl) ?_
    refine lv_bipush (v := 7) hx hb dM_forget_3 (by decide) ?_
    refine lv_icmp_ge (tgt := 28) hx hb dM_forget_5 (by decide) (fun hc => ?_) (fun hc => ?_)
    · have h := h.1 hc
      exact me_v hx hb hr hlk hP hS h dM_forget_28
    · have h := h.2 hc
      refine lv_aload_n hx hb dM_forget_8 rfl (lv_at hl 0 rfl) ?_
      refine va_get (D := D) (ci := 6) (v := .ref (ad 20)) (C := RM) (T := TM) (N := 33) hx hb htb inM hown hK hP 0 (mw_at (by decide) (ym_0 _ _ _ _)) rfl 26 (by decide) (htb _ k2_198) (fun _ h9 => h9) rfl dM_forget_9 ?_
      refine lv_iload_n hx hb dM_forget_12 rfl (lv_at hl 1 rfl) ?_
      refine lv_iconst (v := 0) hx hb dM_forget_13 (by decide) ?_
      obtain ⟨hn1, h⟩ := h
      refine mr_zast hx hb hK hP hD hS 20 1 (by decide) (fun _ => rfl) rfl hn1 dM_forget_14 (fun H locs hP hS => ?_)
      generalize heI2 : mu I 20 x1.toNatClampNeg (vp_nar .boolean 0) = I2 at hP
      have h := h I2 heI2.symm
      refine lv_aload_n hx hb dM_forget_15 rfl (lv_at hl 0 rfl) ?_
      refine va_get (D := D) (ci := 6) (v := .ref (ad 21)) (C := RM) (T := TM) (N := 33) hx hb htb inM hown hK hP 0 (mw_at (by decide) (ym_0 _ _ _ _)) rfl 27 (by decide) (htb _ k2_199) (fun _ h9 => h9) rfl dM_forget_16 ?_
      refine lv_iload_n hx hb dM_forget_19 rfl (lv_at hl 1 rfl) ?_
      refine lv_iconst (v := 0) hx hb dM_forget_20 (by decide) ?_
      obtain ⟨hn3, h⟩ := h
      refine mr_zast hx hb hK hP hD hS 21 1 (by decide) (fun _ => rfl) rfl hn3 dM_forget_21 (fun H locs hP hS => ?_)
      generalize heI4 : mu I2 21 x1.toNatClampNeg (vp_nar .boolean 0) = I4 at hP
      have h := h I4 heI4.symm
      refine lv_iinc (k := 1) (v := x1 + 1) (lv' := [(1, .int (x1 + 1)), (0, .ref (ad 0))]) hx hb dM_forget_22 hl rfl (by rfl) (by decide) rfl (fun ls hl => ?_)
      refine lv_goto (tgt := 2) hx hb dM_forget_25 (by decide) ?_
      rw [hK2] at h
      exact h _ _ _ hP hS (lv_sub hl [1, 0] rfl)
  have h := P_M_forget I0 J0    K2 (qM_forget I0 J0) c2 (fun _ _ h => h)
  unfold wp_M_forget at h
  refine lv_iconst (v := 0) hx hb dM_forget_0 (by decide) ?_
  refine lv_istore_n (lv' := [(1, .int 0), (0, .ref (ad 0))]) hx hb dM_forget_1 rfl hl (by decide) rfl (fun ls hl => ?_)
  rw [hK2] at h
  exact h _ _ _ hP hS (lv_sub hl [1, 0] rfl)
def wp_M_origin_27 (K27 : mI → mJ → Int32 → Prop) (R : mI → mJ → Prop) (I : mI) (J : mJ)  (x1 : Int32) : Prop :=
  ((7 ≤ x1 → (∀ (I8 : mI) (J9 : mJ), qM_forget I J I8 J9 → R I8 J9)) ∧ (¬ (7 ≤ x1) → (vp_in x1 7 ∧ (∀ (I11 : mI), I11 = mu I 18 x1.toNatClampNeg 32 → (vp_in x1 7 ∧ (∀ (I13 : mI), I13 = mu I11 19 x1.toNatClampNeg (vp_nar .boolean 0) → K27 I13 J (x1 + 1)))))))
def wp_M_origin (K27 : mI → mJ → Int32 → Prop) (R : mI → mJ → Prop) (I0 : mI) (J0 : mJ)  : Prop :=
  (∀ (I1 : mI), I1 = mu I0 0 23 0 → (∀ (I2 : mI), I2 = mu I1 0 28 0 → (∀ (I3 : mI), I3 = mu I2 0 29 0 → (∀ (I4 : mI), I4 = mu I3 0 30 0 → (∀ (I5 : mI), I5 = mu I4 0 31 0 → K27 I5 J0 0)))))
theorem P_M_origin (I0 : mI) (J0 : mJ)    (K27 : mI → mJ → Int32 → Prop) (R : mI → mJ → Prop) (c27 : ∀ (I : mI) (J : mJ) (x1 : Int32), wp_M_origin_27 K27 R I J  x1 → K27 I J x1) (hR : ∀ (I' : mI) (J' : mJ), qM_origin I0 J0 I' J' → R I' J') : wp_M_origin K27 R I0 J0  := by
  unfold wp_M_origin
  intro I1 e1 I2 e2 I3 e3 I4 e4 I5 e5
  have f5 : mF I0 I5 := by
    rw [e5, e4, e3, e2, e1]
    exact (((mF_mu (Or.inr ⟨rfl, by omega⟩)).tr (mF_mu (Or.inr ⟨rfl, by omega⟩))).tr (mF_mu (Or.inr ⟨rfl, by omega⟩))).tr (mF_mu (Or.inr ⟨rfl, by omega⟩)) |>.tr (mF_mu (Or.inr ⟨rfl, by omega⟩))
  have z5 : I5 0 23 = 0 ∧ I5 0 28 = 0 ∧ I5 0 29 = 0 ∧ I5 0 30 = 0 ∧ I5 0 31 = 0 := by
    rw [e5, e4, e3, e2, e1]
    exact ⟨rfl, rfl, rfl, rfl, rfl⟩
  have key : ∀ m v I, v + m = 7 → mF I0 I → I 0 = I5 0 → (∀ w, w < v → I 18 w = 32 ∧ I 19 w = 0) → K27 I J0 (nI v) := by
    intro m
    induction m with
    | zero =>
      intro v I hv h1 h0 h2
      have hv : v = 7 := by omega
      subst hv
      apply c27
      unfold wp_M_origin_27
      refine ⟨fun _ I8 J9 hq => hR _ _ ?_, fun h => absurd (nI_le (a := 7) (b := 7) (Nat.le_refl _) (by omega)) h⟩
      obtain ⟨rfl, g1, g2⟩ := hq
      refine ⟨rfl, h1.tr ⟨⟨fun a q1 q2 => g1 a (by omega) (by omega), fun k _ => by rw [g1 0 (by omega) (by omega)]⟩, g1 22 (by omega) (by omega)⟩, fun w hw => ?_, ?_⟩
      · obtain ⟨q1, q2⟩ := h2 w hw
        obtain ⟨q3, q4⟩ := g2 w hw
        rw [g1 18 (by omega) (by omega), g1 19 (by omega) (by omega)]
        exact ⟨q1, q2, q3, q4⟩
      · rw [g1 0 (by omega) (by omega), h0]
        exact z5
    | succ m ih =>
      intro v I hv h1 h0 h2
      apply c27
      unfold wp_M_origin_27
      rw [show (nI v).toNatClampNeg = v from nI_clamp (by omega), nI_1, nar_0]
      refine ⟨fun h => absurd h (nI_ge (b := 7) (by omega) (by omega)), fun _ => ⟨i7_of (by omega), fun I11 e11 => ⟨i7_of (by omega), fun I13 e13 => ih (v + 1) I13 (by omega) ?_ ?_ (fun w hw => ?_)⟩⟩⟩
      · rw [e13, e11]
        exact (h1.tr (mF_mu (Or.inl ⟨by omega, by omega⟩))).tr (mF_mu (Or.inl ⟨by omega, by omega⟩))
      · rw [e13, mu_other _ _ _ (by omega), e11, mu_other _ _ _ (by omega)]; exact h0
      · by_cases ew : w = v
        · subst ew
          exact ⟨by rw [e13, mu_other _ _ _ (by omega), e11, mu_at, if_pos ⟨rfl, rfl⟩], by rw [e13, mu_at, if_pos ⟨rfl, rfl⟩]⟩
        · obtain ⟨q1, q2⟩ := h2 w (by omega)
          exact ⟨by rw [e13, mu_other _ _ _ (by omega), e11, mu_at, if_neg (fun y => ew y.2)]; exact q1, by rw [e13, mu_at, if_neg (fun y => ew y.2), e11, mu_other _ _ _ (by omega)]; exact q2⟩
  exact key 7 0 I5 (by omega) f5 rfl (fun w hw => by omega)
set_option maxHeartbeats 4000000 in
set_option maxRecDepth 100000 in
theorem C_M_origin (l : Launch) (D : va_G) (ca : Nat → Nat) (ad : Nat → Nat) (I0 : mI) (J0 : mJ)    : Met l yM_origin wM_origin ({ frames := 1, cells := 0, slots := 0, locals := 21 } : Room) (va_Pc [.ref (ad 0)] (mPre D vwCl (xty ca) 23 ad (ymk ca ad) nL I0 J0)) (mQv D vwCl 23 ad (ymk ca ad) (qM_origin I0 J0)) 0 0 (mA 23 ad) := by
  refine Met.ofW (cc := cM_origin) (maxL := 2) (ret := none) (by decide) rfl ?_
  intro p e s m args below meth c s₁ B hml hv
  obtain ⟨rfl, hP, hK, hD0, hN⟩ := hv
  have hx := B.exec
  have hb := B.bytes
  have hr := B.returns
  have htb : ∀ w ∈ wb, w.before _ s = true := fun w h => atoms_spec (ws := wM_origin) B.pre w (List.mem_cons_of_mem _ h)
  have hown : s.vm.findClass RM = some m.cls := findClass_of_methodNamed B.named
  have hlk := B.notSynchronized
  have hD := mw_Dm hD0
  have hS : va_S (mA 23 ad) s.heap s.heap [] := va_S.rf
  have hl := lv_entry ([.ref (ad 0)]) (n := 2) (Nat.le_of_ble_eq_true rfl)
  rw [lg_entry_eq]
  generalize (lg_sl ([.ref (ad 0)]) ++ List.replicate (2 - (lg_sl ([.ref (ad 0)])).length) Slot.unset).toArray = ls at hl ⊢
  have hl : lv_has ls 2 [(0, .ref (ad 0))] := hl
  obtain ⟨K27, hK27⟩ : ∃ K : mI → mJ → Int32 → Prop, K = (fun I J x1 => ∀ (H : Heap) (locs : List Loc) (ls : Array Slot), va_P D vwCl (mw 23 ad (ymk ca ad) I J) H → va_S (mA 23 ad) s.heap H locs → lv_has ls 2 [(0, .ref (ad 0)), (1, .int x1)] → W p l e (headSpec wM_origin ({ frames := 1, cells := 0, slots := 0, locals := 21 } : Room)).room s m (([.ref (ad 0)] : List Value).toArray) below meth c H locs 0 0 (MQ below (mQv D vwCl 23 ad (ymk ca ad) (qM_origin I0 J0)) (([.ref (ad 0)] : List Value).toArray) s 0 0 (mA 23 ad)) (F0 m 27 ls [])) := ⟨_, rfl⟩
  have c27 : ∀ (I : mI) (J : mJ) (x1 : Int32), wp_M_origin_27 K27 (qM_origin I0 J0) I J  x1 → K27 I J x1 := by
    intro I J x1 h
    rw [hK27]
    intro H locs ls hP hS hl
    unfold wp_M_origin_27 at h
    refine lv_iload_n hx hb dM_origin_27 rfl (lv_at hl 1 rfl) ?_
    refine lv_bipush (v := 7) hx hb dM_origin_28 (by decide) ?_
    refine lv_icmp_ge (tgt := 54) hx hb dM_origin_30 (by decide) (fun hc => ?_) (fun hc => ?_)
    · have h := h.1 hc
      refine lv_aload_n hx hb dM_origin_54 rfl (lv_at hl 0 rfl) ?_
      refine mc_v (va_runV (As := []) (rest := []) ⟨hx, hb, hml, hown, htb⟩ (C_M_forget l D ca ad I J) (cwV 0 htb (gd_v k3_55 k3_57 ks23 k1_8 k3_58) rfl rfl rfl (by decide +kernel) ⟨Nat.le_of_ble_eq_true rfl, Nat.le_of_ble_eq_true rfl⟩) (mPre_V hK hP hD hN rfl (mw_at (by decide) (ym_0 _ _ _ _))) rfl rfl hl.1 rfl (lv_room (Nat.le_of_ble_eq_true rfl)) dM_origin_55 ⟨Nat.le_of_ble_eq_true rfl, Nat.le_of_ble_eq_true rfl⟩) hS (fun I8 J9 H locs hpost hP hS => ?_)
      have h := h I8 J9 hpost
      exact me_v hx hb hr hlk hP hS h dM_origin_58
    · have h := h.2 hc
      refine lv_aload_n hx hb dM_origin_33 rfl (lv_at hl 0 rfl) ?_
      refine va_get (D := D) (ci := 6) (v := .ref (ad 18)) (C := RM) (T := TM) (N := 33) hx hb htb inM hown hK hP 0 (mw_at (by decide) (ym_0 _ _ _ _)) rfl 24 (by decide) (htb _ k2_196) (fun _ h9 => h9) rfl dM_origin_34 ?_
      refine lv_iload_n hx hb dM_origin_37 rfl (lv_at hl 1 rfl) ?_
      refine lv_bipush (v := 32) hx hb dM_origin_38 (by decide) ?_
      obtain ⟨hn10, h⟩ := h
      refine mr_iast hx hb hK hP hD hS 18 0 (by decide) (fun _ => rfl) rfl hn10 dM_origin_40 (fun H locs hP hS => ?_)
      generalize heI11 : mu I 18 x1.toNatClampNeg 32 = I11 at hP
      have h := h I11 heI11.symm
      refine lv_aload_n hx hb dM_origin_41 rfl (lv_at hl 0 rfl) ?_
      refine va_get (D := D) (ci := 6) (v := .ref (ad 19)) (C := RM) (T := TM) (N := 33) hx hb htb inM hown hK hP 0 (mw_at (by decide) (ym_0 _ _ _ _)) rfl 25 (by decide) (htb _ k2_197) (fun _ h9 => h9) rfl dM_origin_42 ?_
      refine lv_iload_n hx hb dM_origin_45 rfl (lv_at hl 1 rfl) ?_
      refine lv_iconst (v := 0) hx hb dM_origin_46 (by decide) ?_
      obtain ⟨hn12, h⟩ := h
      refine mr_zast hx hb hK hP hD hS 19 1 (by decide) (fun _ => rfl) rfl hn12 dM_origin_47 (fun H locs hP hS => ?_)
      generalize heI13 : mu I11 19 x1.toNatClampNeg (vp_nar .boolean 0) = I13 at hP
      have h := h I13 heI13.symm
      refine lv_iinc (k := 1) (v := x1 + 1) (lv' := [(1, .int (x1 + 1)), (0, .ref (ad 0))]) hx hb dM_origin_48 hl rfl (by rfl) (by decide) rfl (fun ls hl => ?_)
      refine lv_goto (tgt := 27) hx hb dM_origin_51 (by decide) ?_
      rw [hK27] at h
      exact h _ _ _ hP hS (lv_sub hl [1, 0] rfl)
  have h := P_M_origin I0 J0    K27 (qM_origin I0 J0) c27 (fun _ _ h => h)
  unfold wp_M_origin at h
  refine lv_aload_n hx hb dM_origin_0 rfl (lv_at hl 0 rfl) ?_
  refine lv_iconst (v := 0) hx hb dM_origin_1 (by decide) ?_
  refine mr_puti hx hb htb inM tyM tyM_ok nmM hown hK hP hD hS 0 (by decide) (ym_0 _ _ _ _) rfl 23 (by decide) (htb _ k2_195) (fun _ h9 => h9) rfl (by decide +kernel) (Nat.le_of_ble_eq_true rfl) (ym_p23 _ _ _ _ _) dM_origin_2 (fun H locs hP hS => ?_)
  generalize heI1 : mu I0 0 23 0 = I1 at hP
  have h := h I1 heI1.symm
  refine lv_aload_n hx hb dM_origin_5 rfl (lv_at hl 0 rfl) ?_
  refine lv_iconst (v := 0) hx hb dM_origin_6 (by decide) ?_
  refine mr_puti hx hb htb inM tyM tyM_ok nmM hown hK hP hD hS 0 (by decide) (ym_0 _ _ _ _) rfl 28 (by decide) (htb _ k2_200) (fun _ h9 => h9) rfl (by decide +kernel) (Nat.le_of_ble_eq_true rfl) (ym_p28 _ _ _ _ _) dM_origin_7 (fun H locs hP hS => ?_)
  generalize heI2 : mu I1 0 28 0 = I2 at hP
  have h := h I2 heI2.symm
  refine lv_aload_n hx hb dM_origin_10 rfl (lv_at hl 0 rfl) ?_
  refine lv_iconst (v := 0) hx hb dM_origin_11 (by decide) ?_
  refine mr_puti hx hb htb inM tyM tyM_ok nmM hown hK hP hD hS 0 (by decide) (ym_0 _ _ _ _) rfl 29 (by decide) (htb _ k2_201) (fun _ h9 => h9) rfl (by decide +kernel) (Nat.le_of_ble_eq_true rfl) (ym_p29 _ _ _ _ _) dM_origin_12 (fun H locs hP hS => ?_)
  generalize heI3 : mu I2 0 29 0 = I3 at hP
  have h := h I3 heI3.symm
  refine lv_aload_n hx hb dM_origin_15 rfl (lv_at hl 0 rfl) ?_
  refine lv_iconst (v := 0) hx hb dM_origin_16 (by decide) ?_
  refine mr_puti hx hb htb inM tyM tyM_ok nmM hown hK hP hD hS 0 (by decide) (ym_0 _ _ _ _) rfl 30 (by decide) (htb _ k2_202) (fun _ h9 => h9) rfl (by decide +kernel) (Nat.le_of_ble_eq_true rfl) (ym_p30 _ _ _ _ _) dM_origin_17 (fun H locs hP hS => ?_)
  generalize heI4 : mu I3 0 30 0 = I4 at hP
  have h := h I4 heI4.symm
  refine lv_aload_n hx hb dM_origin_20 rfl (lv_at hl 0 rfl) ?_
  refine lv_iconst (v := 0) hx hb dM_origin_21 (by decide) ?_
  refine mr_puti hx hb htb inM tyM tyM_ok nmM hown hK hP hD hS 0 (by decide) (ym_0 _ _ _ _) rfl 31 (by decide) (htb _ k2_203) (fun _ h9 => h9) rfl (by decide +kernel) (Nat.le_of_ble_eq_true rfl) (ym_p31 _ _ _ _ _) dM_origin_22 (fun H locs hP hS => ?_)
  generalize heI5 : mu I4 0 31 0 = I5 at hP
  have h := h I5 heI5.symm
  refine lv_iconst (v := 0) hx hb dM_origin_25 (by decide) ?_
  refine lv_istore_n (lv' := [(1, .int 0), (0, .ref (ad 0))]) hx hb dM_origin_26 rfl hl (by decide) rfl (fun ls hl => ?_)
  rw [hK27] at h
  exact h _ _ _ hP hS (lv_sub hl [1, 0] rfl)
def wp_M_advance_0 (K0 : mI → mJ → Prop) (K15 : mI → mJ → Int32 → Prop) (R : mI → mJ → Prop) (I : mI) (J : mJ) (a1 : Int32)  : Prop :=
  (¬ (I 0 1) = 0 ∧ (((a1 / (I 0 1)) ≤ (I 0 23) → R I J) ∧ (¬ ((a1 / (I 0 1)) ≤ (I 0 23)) → K15 I J 0)))
def wp_M_advance_15 (K0 : mI → mJ → Prop) (K15 : mI → mJ → Int32 → Prop) (R : mI → mJ → Prop) (I : mI) (J : mJ) (a1 : Int32) (x2 : Int32) : Prop :=
  (((I 0 0) ≤ x2 → (∀ (I2 : mI), I2 = mu I 0 23 ((I 0 23) + 1) → K0 I2 J)) ∧ (¬ ((I 0 0) ≤ x2) → (vp_in x2 7 ∧ ((¬ ((I 20 x2.toNatClampNeg) = 0) → (vp_in x2 7 ∧ (vp_in x2 7 ∧ (∀ (I6 : mI), I6 = mu I 18 x2.toNatClampNeg (I 18 x2.toNatClampNeg) → (vp_in x2 7 ∧ (vp_in x2 7 ∧ (∀ (I9 : mI), I9 = mu I6 21 x2.toNatClampNeg (vp_nar .boolean (I6 20 x2.toNatClampNeg)) → (vp_in x2 7 ∧ (∀ (I11 : mI), I11 = mu I9 20 x2.toNatClampNeg (vp_nar .boolean 0) → K15 I11 J (x2 + 1)))))))))) ∧ ((I 20 x2.toNatClampNeg) = 0 → (vp_in x2 7 ∧ (((I 18 x2.toNatClampNeg) ≤ 0 → (vp_in x2 7 ∧ (vp_in x2 7 ∧ (∀ (I15 : mI), I15 = mu I 18 x2.toNatClampNeg (I 18 x2.toNatClampNeg) → (vp_in x2 7 ∧ (vp_in x2 7 ∧ (∀ (I18 : mI), I18 = mu I15 21 x2.toNatClampNeg (vp_nar .boolean (I15 20 x2.toNatClampNeg)) → (vp_in x2 7 ∧ (∀ (I20 : mI), I20 = mu I18 20 x2.toNatClampNeg (vp_nar .boolean 0) → K15 I20 J (x2 + 1)))))))))) ∧ (¬ ((I 18 x2.toNatClampNeg) ≤ 0) → (vp_in x2 7 ∧ (vp_in x2 7 ∧ (∀ (I23 : mI), I23 = mu I 18 x2.toNatClampNeg ((I 18 x2.toNatClampNeg) - 1) → (vp_in x2 7 ∧ (vp_in x2 7 ∧ (∀ (I26 : mI), I26 = mu I23 21 x2.toNatClampNeg (vp_nar .boolean (I23 20 x2.toNatClampNeg)) → (vp_in x2 7 ∧ (∀ (I28 : mI), I28 = mu I26 20 x2.toNatClampNeg (vp_nar .boolean 0) → K15 I28 J (x2 + 1)))))))))))))))))
def wp_M_advance (K0 : mI → mJ → Prop) (K15 : mI → mJ → Int32 → Prop) (R : mI → mJ → Prop) (I0 : mI) (J0 : mJ) (a1 : Int32) : Prop :=
  K0 I0 J0
theorem P_M_advance (S : mI) (I0 : mI) (J0 : mJ) (a1 : Int32)  (hp : pM_advance S I0 J0 a1) (K0 : mI → mJ → Prop) (K15 : mI → mJ → Int32 → Prop) (R : mI → mJ → Prop) (c0 : ∀ (I : mI) (J : mJ) , wp_M_advance_0 K0 K15 R I J a1  → K0 I J ) (c15 : ∀ (I : mI) (J : mJ) (x2 : Int32), wp_M_advance_15 K0 K15 R I J a1 x2 → K15 I J x2) (hR : ∀ (I' : mI) (J' : mJ), qM_advance S I0 J0 a1 I' J' → R I' J') : wp_M_advance K0 K15 R I0 J0 a1 := by
  obtain ⟨hY, ⟨s, hs, rfl⟩, ⟨q0, hq0, hw0⟩⟩ := hp
  have hb := hY.1.b
  unfold qM_advance at hR
  rw [cN_nI (n := s) (by omega)] at hR
  have hd := Nat.div_le_self s (zLn S)
  have ed : ∀ I, YR S I → nI s / I 0 1 = nI (s / zLn S) := fun I h => by rw [h.ln]; exact pk_div (by omega) (by omega) (by omega)
  have inner : ∀ (I : mI), YR S I → (∀ I1, (∀ a, a ≠ 18 → a ≠ 20 → a ≠ 21 → I1 a = I a) → (∀ w, w < 7 → I1 18 w = (if w < zNv S ∧ I 20 w = 0 ∧ 0 < I 18 w then I 18 w - 1 else I 18 w) ∧ I1 21 w = (if w < zNv S then vp_nar .boolean (I 20 w) else I 21 w) ∧ I1 20 w = (if w < zNv S then 0 else I 20 w)) → K15 I1 J0 (nI (zNv S))) → ∀ m v I1, v + m = zNv S → (∀ a, a ≠ 18 → a ≠ 20 → a ≠ 21 → I1 a = I a) → (∀ w, w < 7 → I1 18 w = (if w < v ∧ I 20 w = 0 ∧ 0 < I 18 w then I 18 w - 1 else I 18 w) ∧ I1 21 w = (if w < v then vp_nar .boolean (I 20 w) else I 21 w) ∧ I1 20 w = (if w < v then 0 else I 20 w)) → K15 I1 J0 (nI v) := by
    intro I hYI fin m
    induction m with
    | zero =>
      intro v I1 hv h1 h2
      have hv : v = zNv S := by omega
      subst hv
      exact fin I1 h1 h2
    | succ m ih =>
      intro v I1 hv h1 h2
      have ev : (nI v).toNatClampNeg = v := nI_clamp (by omega)
      have i7 : vp_in (nI v) 7 := i7_of (by omega)
      obtain ⟨v1, v2, v3⟩ := h2 v (by omega)
      rw [if_neg (by omega)] at v1 v2 v3
      have go : ∀ (x : Int32) (I6 I9 I11 : mI), x = (if I 20 v = 0 ∧ 0 < I 18 v then I 18 v - 1 else I 18 v) → I6 = mu I1 18 v x → I9 = mu I6 21 v (vp_nar .boolean (I6 20 v)) → I11 = mu I9 20 v 0 → K15 I11 J0 (nI (v + 1)) := fun x I6 I9 I11 hx e6 e9 e11 => by
        have n6 : I6 20 v = I 20 v := by rw [e6, mu_other _ _ _ (by omega)]; exact v3
        rw [n6] at e9
        refine ih (v + 1) I11 (by omega) (fun a g1 g2 g3 => ?_) (fun w hw => ?_)
        · rw [e11, mu_other _ _ _ g2, e9, mu_other _ _ _ g3, e6, mu_other _ _ _ g1]; exact h1 a g1 g2 g3
        · obtain ⟨w1, w2, w3⟩ := h2 w hw
          have a18 : I11 18 w = if w = v then x else I1 18 w := by
            rw [e11, mu_other _ _ _ (by omega), e9, mu_other _ _ _ (by omega), e6, mu_at]
            by_cases c : w = v
            · rw [if_pos ⟨rfl, c⟩, if_pos c]
            · rw [if_neg (fun y => c y.2), if_neg c]
          have a21 : I11 21 w = if w = v then vp_nar .boolean (I 20 v) else I1 21 w := by
            rw [e11, mu_other _ _ _ (by omega), e9, mu_at, e6, mu_other _ _ _ (by omega)]
            by_cases c : w = v
            · rw [if_pos ⟨rfl, c⟩, if_pos c]
            · rw [if_neg (fun y => c y.2), if_neg c]
          have a20 : I11 20 w = if w = v then 0 else I1 20 w := by
            rw [e11, mu_at, e9, mu_other _ _ _ (by omega), e6, mu_other _ _ _ (by omega)]
            by_cases c : w = v
            · rw [if_pos ⟨rfl, c⟩, if_pos c]
            · rw [if_neg (fun y => c y.2), if_neg c]
          rw [a18, a21, a20]
          by_cases c : w = v
          · subst c
            rw [if_pos rfl, if_pos rfl, if_pos rfl, if_pos (show w < w + 1 by omega), if_pos (show w < w + 1 by omega), hx]
            refine ⟨?_, rfl, rfl⟩
            by_cases d : I 20 w = 0 ∧ 0 < I 18 w
            · rw [if_pos d, if_pos ⟨by omega, d⟩]
            · rw [if_neg d, if_neg (fun y => d y.2)]
          · rw [if_neg c, if_neg c, if_neg c, w1, w2, w3]
            by_cases d : w < v
            · rw [if_pos d, if_pos d, if_pos (show w < v + 1 by omega), if_pos (show w < v + 1 by omega)]
              refine ⟨?_, rfl, rfl⟩
              by_cases d2 : I 20 w = 0 ∧ 0 < I 18 w
              · rw [if_pos ⟨d, d2⟩, if_pos ⟨by omega, d2⟩]
              · rw [if_neg (fun y => d2 y.2), if_neg (fun y => d2 y.2)]
            · rw [if_neg d, if_neg d, if_neg (show ¬ w < v + 1 by omega), if_neg (show ¬ w < v + 1 by omega)]
              refine ⟨?_, rfl, rfl⟩
              rw [if_neg (fun y => d y.1), if_neg (fun y => by omega)]
      apply c15
      unfold wp_M_advance_15
      rw [ev, nI_1, h1 0 (by omega) (by omega) (by omega), hYI.nv, v1, v3, nar_0]
      refine ⟨fun h => absurd h (nI_ge (by omega) (by omega)), fun _ => ⟨i7, fun h => ⟨i7, i7, fun I6 e6 => ⟨i7, i7, fun I9 e9 => ⟨i7, fun I11 e11 => go _ I6 I9 I11 (by rw [if_neg (fun y => h y.1)]) e6 e9 e11⟩⟩⟩, fun h => ⟨i7, fun h3 => ⟨i7, i7, fun I6 e6 => ⟨i7, i7, fun I9 e9 => ⟨i7, fun I11 e11 => go _ I6 I9 I11 (by rw [if_neg (fun y => Int32.not_lt.mpr h3 y.2)]) e6 e9 e11⟩⟩⟩, fun h3 => ⟨i7, i7, fun I6 e6 => ⟨i7, i7, fun I9 e9 => ⟨i7, fun I11 e11 => go _ I6 I9 I11 (by rw [if_pos ⟨h, Int32.not_le.mp h3⟩]) e6 e9 e11⟩⟩⟩⟩⟩⟩
  have outer : ∀ m k I, s / zLn S - gE q0 = k + m → mF I0 I → (∀ q, mE q I0 → gW (zNv S) (zBc S) q → mE (gAdv (zNv S) k q) I) → gE q0 + k ≤ 240 → K0 I J0 := by
    intro m
    induction m with
    | zero =>
      intro k I hk h1 h2 hk2
      have e23 := (h2 q0 hq0 hw0).2.1
      rw [gAdv_E] at e23
      have hYI := hY.g h1.1
      apply c0
      unfold wp_M_advance_0
      rw [ed I hYI, hYI.ln, e23]
      refine ⟨nI_ne0 (by omega) (by omega), fun _ => hR _ _ ⟨rfl, h1, fun q hq hw => ?_⟩, fun h => absurd (nI_le (by omega) (by omega)) h⟩
      have : gE q = gE q0 := (nI_eq (by have := hw.1; omega) (by have := hw0.1; omega)).mp (hq.2.1.symm.trans hq0.2.1)
      unfold gTo
      rw [this, hk]
      exact h2 q hq hw
    | succ m ih =>
      intro k I hk h1 h2 hk2
      have e23 := (h2 q0 hq0 hw0).2.1
      rw [gAdv_E] at e23
      have hYI := hY.g h1.1
      apply c0
      unfold wp_M_advance_0
      rw [ed I hYI, hYI.ln, e23]
      refine ⟨nI_ne0 (by omega) (by omega), fun h => absurd h (nI_ge (by omega) (by omega)), fun _ => ?_⟩
      refine inner I hYI (fun I1 g1 g2 => ?_) (zNv S) 0 I (by omega) (fun _ _ _ _ => rfl) (fun w hw => by rw [if_neg (by omega), if_neg (by omega), if_neg (by omega)]; exact ⟨rfl, rfl, rfl⟩)
      apply c15
      unfold wp_M_advance_15
      rw [g1 0 (by omega) (by omega) (by omega), hYI.nv]
      refine ⟨fun _ I2 e2 => ih (k + 1) I2 (by omega) ?_ (fun q hq hw => ?_) (by omega), fun h => absurd (nI_le (Nat.le_refl _) (by omega)) h⟩
      · refine h1.tr ⟨⟨fun a q1 q2 => ?_, fun c hc => ?_⟩, ?_⟩
        · rw [e2, mu_other _ _ _ (by omega), g1 a (by omega) (by omega) (by omega)]
        · rw [e2, mu_at, if_neg (by omega), g1 0 (by omega) (by omega) (by omega)]
        · rw [e2, mu_other _ _ _ (by omega), g1 22 (by omega) (by omega) (by omega)]
      · rw [gAdv_s]
        have : gE q = gE q0 := (nI_eq (by have := hw.1; omega) (by have := hw0.1; omega)).mp (hq.2.1.symm.trans hq0.2.1)
        exact step_M (by omega) (h2 q hq hw) (gAdv_W k q hw (by omega)) g1 g2 e2
  exact outer (s / zLn S - gE q0) 0 I0 (by omega) (mF.rf I0) (fun q hq _ => hq) (by have := hw0.1; omega)
set_option maxHeartbeats 4000000 in
set_option maxRecDepth 100000 in
theorem C_M_advance (l : Launch) (D : va_G) (ca : Nat → Nat) (ad : Nat → Nat) (S : mI) (I0 : mI) (J0 : mJ) (a1 : Int32)  (hp : pM_advance S I0 J0 a1) : Met l yM_advance wM_advance ({ frames := 0, cells := 0, slots := 0, locals := 0 } : Room) (va_Pc [.ref (ad 0), .int a1] (mPre D vwCl (xty ca) 23 ad (ymk ca ad) nL I0 J0)) (mQv D vwCl 23 ad (ymk ca ad) (qM_advance S I0 J0 a1)) 0 0 (mA 23 ad) := by
  refine Met.ofW (cc := cM_advance) (maxL := 3) (ret := none) (by decide) rfl ?_
  intro p e s m args below meth c s₁ B hml hv
  obtain ⟨rfl, hP, hK, hD0, hN⟩ := hv
  have hx := B.exec
  have hb := B.bytes
  have hr := B.returns
  have htb : ∀ w ∈ wb, w.before _ s = true := fun w h => atoms_spec (ws := wM_advance) B.pre w (List.mem_cons_of_mem _ h)
  have hown : s.vm.findClass RM = some m.cls := findClass_of_methodNamed B.named
  have hlk := B.notSynchronized
  have hD := mw_Dm hD0
  have hS : va_S (mA 23 ad) s.heap s.heap [] := va_S.rf
  have hl := lv_entry ([.ref (ad 0), .int a1]) (n := 3) (Nat.le_of_ble_eq_true rfl)
  rw [lg_entry_eq]
  generalize (lg_sl ([.ref (ad 0), .int a1]) ++ List.replicate (3 - (lg_sl ([.ref (ad 0), .int a1])).length) Slot.unset).toArray = ls at hl ⊢
  have hl : lv_has ls 3 [(0, .ref (ad 0)), (1, .int a1)] := hl
  obtain ⟨K0, hK0⟩ : ∃ K : mI → mJ → Prop, K = (fun I J  => ∀ (H : Heap) (locs : List Loc) (ls : Array Slot), va_P D vwCl (mw 23 ad (ymk ca ad) I J) H → va_S (mA 23 ad) s.heap H locs → lv_has ls 3 [(0, .ref (ad 0)), (1, .int a1)] → W p l e (headSpec wM_advance ({ frames := 0, cells := 0, slots := 0, locals := 0 } : Room)).room s m (([.ref (ad 0), .int a1] : List Value).toArray) below meth c H locs 0 0 (MQ below (mQv D vwCl 23 ad (ymk ca ad) (qM_advance S I0 J0 a1)) (([.ref (ad 0), .int a1] : List Value).toArray) s 0 0 (mA 23 ad)) (F0 m 0 ls [])) := ⟨_, rfl⟩
  obtain ⟨K15, hK15⟩ : ∃ K : mI → mJ → Int32 → Prop, K = (fun I J x2 => ∀ (H : Heap) (locs : List Loc) (ls : Array Slot), va_P D vwCl (mw 23 ad (ymk ca ad) I J) H → va_S (mA 23 ad) s.heap H locs → lv_has ls 3 [(0, .ref (ad 0)), (1, .int a1), (2, .int x2)] → W p l e (headSpec wM_advance ({ frames := 0, cells := 0, slots := 0, locals := 0 } : Room)).room s m (([.ref (ad 0), .int a1] : List Value).toArray) below meth c H locs 0 0 (MQ below (mQv D vwCl 23 ad (ymk ca ad) (qM_advance S I0 J0 a1)) (([.ref (ad 0), .int a1] : List Value).toArray) s 0 0 (mA 23 ad)) (F0 m 15 ls [])) := ⟨_, rfl⟩
  have c0 : ∀ (I : mI) (J : mJ) , wp_M_advance_0 K0 K15 (qM_advance S I0 J0 a1) I J a1  → K0 I J  := by
    intro I J  h
    rw [hK0]
    intro H locs ls hP hS hl
    unfold wp_M_advance_0 at h
    refine lv_aload_n hx hb dM_advance_0 rfl (lv_at hl 0 rfl) ?_
    refine va_get (D := D) (ci := 6) (v := .int (I 0 23)) (C := RM) (T := TM) (N := 33) hx hb htb inM hown hK hP 0 (mw_at (by decide) (ym_0 _ _ _ _)) rfl 23 (by decide) (htb _ k2_195) (fun _ h9 => h9) rfl dM_advance_1 ?_
    refine lv_iload_n hx hb dM_advance_4 rfl (lv_at hl 1 rfl) ?_
    refine lv_aload_n hx hb dM_advance_5 rfl (lv_at hl 0 rfl) ?_
    refine va_get (D := D) (ci := 6) (v := .int (I 0 1)) (C := RM) (T := TM) (N := 33) hx hb htb inM hown hK hP 0 (mw_at (by decide) (ym_0 _ _ _ _)) rfl 1 (by decide) (htb _ k2_173) (fun _ h9 => h9) rfl dM_advance_6 ?_
    obtain ⟨hz1, h⟩ := h
    refine lv_idiv hx hb dM_advance_9 hz1 ?_
    refine lv_icmp_ge (tgt := 102) hx hb dM_advance_10 (by decide) (fun hc => ?_) (fun hc => ?_)
    · have h := h.1 hc
      exact me_v hx hb hr hlk hP hS h dM_advance_102
    · have h := h.2 hc
      refine lv_iconst (v := 0) hx hb dM_advance_13 (by decide) ?_
      refine lv_istore_n (lv' := [(2, .int 0), (0, .ref (ad 0)), (1, .int a1)]) hx hb dM_advance_14 rfl hl (by decide) rfl (fun ls hl => ?_)
      rw [hK15] at h
      exact h _ _ _ hP hS (lv_sub hl [1, 2, 0] rfl)
  have c15 : ∀ (I : mI) (J : mJ) (x2 : Int32), wp_M_advance_15 K0 K15 (qM_advance S I0 J0 a1) I J a1 x2 → K15 I J x2 := by
    intro I J x2 h
    rw [hK15]
    intro H locs ls hP hS hl
    unfold wp_M_advance_15 at h
    refine lv_iload_n hx hb dM_advance_15 rfl (lv_at hl 2 rfl) ?_
    refine lv_aload_n hx hb dM_advance_16 rfl (lv_at hl 0 rfl) ?_
    refine va_get (D := D) (ci := 6) (v := .int (I 0 0)) (C := RM) (T := TM) (N := 33) hx hb htb inM hown hK hP 0 (mw_at (by decide) (ym_0 _ _ _ _)) rfl 0 (by decide) (htb _ k2_172) (fun _ h9 => h9) rfl dM_advance_17 ?_
    refine lv_icmp_ge (tgt := 89) hx hb dM_advance_20 (by decide) (fun hc => ?_) (fun hc => ?_)
    · have h := h.1 hc
      refine lv_aload_n hx hb dM_advance_89 rfl (lv_at hl 0 rfl) ?_
      refine lv_dup hx hb dM_advance_90 rfl ?_
      refine va_get (D := D) (ci := 6) (v := .int (I 0 23)) (C := RM) (T := TM) (N := 33) hx hb htb inM hown hK hP 0 (mw_at (by decide) (ym_0 _ _ _ _)) rfl 23 (by decide) (htb _ k2_195) (fun _ h9 => h9) rfl dM_advance_91 ?_
      refine lv_iconst (v := 1) hx hb dM_advance_94 (by decide) ?_
      refine lv_iadd hx hb dM_advance_95 ?_
      refine mr_puti hx hb htb inM tyM tyM_ok nmM hown hK hP hD hS 0 (by decide) (ym_0 _ _ _ _) rfl 23 (by decide) (htb _ k2_195) (fun _ h9 => h9) rfl (by decide +kernel) (Nat.le_of_ble_eq_true rfl) (ym_p23 _ _ _ _ _) dM_advance_96 (fun H locs hP hS => ?_)
      generalize heI2 : mu I 0 23 ((I 0 23) + 1) = I2 at hP
      have h := h I2 heI2.symm
      refine lv_goto (tgt := 0) hx hb dM_advance_99 (by decide) ?_
      rw [hK0] at h
      exact h _ _ _ hP hS (lv_sub hl [0, 1] rfl)
    · have h := h.2 hc
      refine lv_aload_n hx hb dM_advance_23 rfl (lv_at hl 0 rfl) ?_
      refine va_get (D := D) (ci := 6) (v := .ref (ad 18)) (C := RM) (T := TM) (N := 33) hx hb htb inM hown hK hP 0 (mw_at (by decide) (ym_0 _ _ _ _)) rfl 24 (by decide) (htb _ k2_196) (fun _ h9 => h9) rfl dM_advance_24 ?_
      refine lv_iload_n hx hb dM_advance_27 rfl (lv_at hl 2 rfl) ?_
      refine lv_aload_n hx hb dM_advance_28 rfl (lv_at hl 0 rfl) ?_
      refine va_get (D := D) (ci := 6) (v := .ref (ad 20)) (C := RM) (T := TM) (N := 33) hx hb htb inM hown hK hP 0 (mw_at (by decide) (ym_0 _ _ _ _)) rfl 26 (by decide) (htb _ k2_198) (fun _ h9 => h9) rfl dM_advance_29 ?_
      refine lv_iload_n hx hb dM_advance_32 rfl (lv_at hl 2 rfl) ?_
      obtain ⟨hn3, h⟩ := h
      refine mr_zald hx hb hK hP 20 1 (by decide) rfl rfl hn3 dM_advance_33 ?_
      refine lv_if_ne (tgt := 57) hx hb dM_advance_34 (by decide) (fun hc => ?_) (fun hc => ?_)
      · have h := h.1 hc
        refine lv_aload_n hx hb dM_advance_57 rfl (lv_at hl 0 rfl) ?_
        refine va_get (D := D) (ci := 6) (v := .ref (ad 18)) (C := RM) (T := TM) (N := 33) hx hb htb inM hown hK hP 0 (mw_at (by decide) (ym_0 _ _ _ _)) rfl 24 (by decide) (htb _ k2_196) (fun _ h9 => h9) rfl dM_advance_58 ?_
        refine lv_iload_n hx hb dM_advance_61 rfl (lv_at hl 2 rfl) ?_
        obtain ⟨hn4, h⟩ := h
        refine mr_iald hx hb hK hP 18 0 (by decide) rfl rfl hn4 dM_advance_62 ?_
        obtain ⟨hn5, h⟩ := h
        refine mr_iast hx hb hK hP hD hS 18 0 (by decide) (fun _ => rfl) rfl hn5 dM_advance_63 (fun H locs hP hS => ?_)
        generalize heI6 : mu I 18 x2.toNatClampNeg (I 18 x2.toNatClampNeg) = I6 at hP
        have h := h I6 heI6.symm
        refine lv_aload_n hx hb dM_advance_64 rfl (lv_at hl 0 rfl) ?_
        refine va_get (D := D) (ci := 6) (v := .ref (ad 21)) (C := RM) (T := TM) (N := 33) hx hb htb inM hown hK hP 0 (mw_at (by decide) (ym_0 _ _ _ _)) rfl 27 (by decide) (htb _ k2_199) (fun _ h9 => h9) rfl dM_advance_65 ?_
        refine lv_iload_n hx hb dM_advance_68 rfl (lv_at hl 2 rfl) ?_
        refine lv_aload_n hx hb dM_advance_69 rfl (lv_at hl 0 rfl) ?_
        refine va_get (D := D) (ci := 6) (v := .ref (ad 20)) (C := RM) (T := TM) (N := 33) hx hb htb inM hown hK hP 0 (mw_at (by decide) (ym_0 _ _ _ _)) rfl 26 (by decide) (htb _ k2_198) (fun _ h9 => h9) rfl dM_advance_70 ?_
        refine lv_iload_n hx hb dM_advance_73 rfl (lv_at hl 2 rfl) ?_
        obtain ⟨hn7, h⟩ := h
        refine mr_zald hx hb hK hP 20 1 (by decide) rfl rfl hn7 dM_advance_74 ?_
        obtain ⟨hn8, h⟩ := h
        refine mr_zast hx hb hK hP hD hS 21 1 (by decide) (fun _ => rfl) rfl hn8 dM_advance_75 (fun H locs hP hS => ?_)
        generalize heI9 : mu I6 21 x2.toNatClampNeg (vp_nar .boolean (I6 20 x2.toNatClampNeg)) = I9 at hP
        have h := h I9 heI9.symm
        refine lv_aload_n hx hb dM_advance_76 rfl (lv_at hl 0 rfl) ?_
        refine va_get (D := D) (ci := 6) (v := .ref (ad 20)) (C := RM) (T := TM) (N := 33) hx hb htb inM hown hK hP 0 (mw_at (by decide) (ym_0 _ _ _ _)) rfl 26 (by decide) (htb _ k2_198) (fun _ h9 => h9) rfl dM_advance_77 ?_
        refine lv_iload_n hx hb dM_advance_80 rfl (lv_at hl 2 rfl) ?_
        refine lv_iconst (v := 0) hx hb dM_advance_81 (by decide) ?_
        obtain ⟨hn10, h⟩ := h
        refine mr_zast hx hb hK hP hD hS 20 1 (by decide) (fun _ => rfl) rfl hn10 dM_advance_82 (fun H locs hP hS => ?_)
        generalize heI11 : mu I9 20 x2.toNatClampNeg (vp_nar .boolean 0) = I11 at hP
        have h := h I11 heI11.symm
        refine lv_iinc (k := 2) (v := x2 + 1) (lv' := [(2, .int (x2 + 1)), (0, .ref (ad 0)), (1, .int a1)]) hx hb dM_advance_83 hl rfl (by rfl) (by decide) rfl (fun ls hl => ?_)
        refine lv_goto (tgt := 15) hx hb dM_advance_86 (by decide) ?_
        rw [hK15] at h
        exact h _ _ _ hP hS (lv_sub hl [1, 2, 0] rfl)
      · have h := h.2 hc
        refine lv_aload_n hx hb dM_advance_37 rfl (lv_at hl 0 rfl) ?_
        refine va_get (D := D) (ci := 6) (v := .ref (ad 18)) (C := RM) (T := TM) (N := 33) hx hb htb inM hown hK hP 0 (mw_at (by decide) (ym_0 _ _ _ _)) rfl 24 (by decide) (htb _ k2_196) (fun _ h9 => h9) rfl dM_advance_38 ?_
        refine lv_iload_n hx hb dM_advance_41 rfl (lv_at hl 2 rfl) ?_
        obtain ⟨hn12, h⟩ := h
        refine mr_iald hx hb hK hP 18 0 (by decide) rfl rfl hn12 dM_advance_42 ?_
        refine lv_if_le (tgt := 57) hx hb dM_advance_43 (by decide) (fun hc => ?_) (fun hc => ?_)
        · have h := h.1 hc
          refine lv_aload_n hx hb dM_advance_57 rfl (lv_at hl 0 rfl) ?_
          refine va_get (D := D) (ci := 6) (v := .ref (ad 18)) (C := RM) (T := TM) (N := 33) hx hb htb inM hown hK hP 0 (mw_at (by decide) (ym_0 _ _ _ _)) rfl 24 (by decide) (htb _ k2_196) (fun _ h9 => h9) rfl dM_advance_58 ?_
          refine lv_iload_n hx hb dM_advance_61 rfl (lv_at hl 2 rfl) ?_
          obtain ⟨hn13, h⟩ := h
          refine mr_iald hx hb hK hP 18 0 (by decide) rfl rfl hn13 dM_advance_62 ?_
          obtain ⟨hn14, h⟩ := h
          refine mr_iast hx hb hK hP hD hS 18 0 (by decide) (fun _ => rfl) rfl hn14 dM_advance_63 (fun H locs hP hS => ?_)
          generalize heI15 : mu I 18 x2.toNatClampNeg (I 18 x2.toNatClampNeg) = I15 at hP
          have h := h I15 heI15.symm
          refine lv_aload_n hx hb dM_advance_64 rfl (lv_at hl 0 rfl) ?_
          refine va_get (D := D) (ci := 6) (v := .ref (ad 21)) (C := RM) (T := TM) (N := 33) hx hb htb inM hown hK hP 0 (mw_at (by decide) (ym_0 _ _ _ _)) rfl 27 (by decide) (htb _ k2_199) (fun _ h9 => h9) rfl dM_advance_65 ?_
          refine lv_iload_n hx hb dM_advance_68 rfl (lv_at hl 2 rfl) ?_
          refine lv_aload_n hx hb dM_advance_69 rfl (lv_at hl 0 rfl) ?_
          refine va_get (D := D) (ci := 6) (v := .ref (ad 20)) (C := RM) (T := TM) (N := 33) hx hb htb inM hown hK hP 0 (mw_at (by decide) (ym_0 _ _ _ _)) rfl 26 (by decide) (htb _ k2_198) (fun _ h9 => h9) rfl dM_advance_70 ?_
          refine lv_iload_n hx hb dM_advance_73 rfl (lv_at hl 2 rfl) ?_
          obtain ⟨hn16, h⟩ := h
          refine mr_zald hx hb hK hP 20 1 (by decide) rfl rfl hn16 dM_advance_74 ?_
          obtain ⟨hn17, h⟩ := h
          refine mr_zast hx hb hK hP hD hS 21 1 (by decide) (fun _ => rfl) rfl hn17 dM_advance_75 (fun H locs hP hS => ?_)
          generalize heI18 : mu I15 21 x2.toNatClampNeg (vp_nar .boolean (I15 20 x2.toNatClampNeg)) = I18 at hP
          have h := h I18 heI18.symm
          refine lv_aload_n hx hb dM_advance_76 rfl (lv_at hl 0 rfl) ?_
          refine va_get (D := D) (ci := 6) (v := .ref (ad 20)) (C := RM) (T := TM) (N := 33) hx hb htb inM hown hK hP 0 (mw_at (by decide) (ym_0 _ _ _ _)) rfl 26 (by decide) (htb _ k2_198) (fun _ h9 => h9) rfl dM_advance_77 ?_
          refine lv_iload_n hx hb dM_advance_80 rfl (lv_at hl 2 rfl) ?_
          refine lv_iconst (v := 0) hx hb dM_advance_81 (by decide) ?_
          obtain ⟨hn19, h⟩ := h
          refine mr_zast hx hb hK hP hD hS 20 1 (by decide) (fun _ => rfl) rfl hn19 dM_advance_82 (fun H locs hP hS => ?_)
          generalize heI20 : mu I18 20 x2.toNatClampNeg (vp_nar .boolean 0) = I20 at hP
          have h := h I20 heI20.symm
          refine lv_iinc (k := 2) (v := x2 + 1) (lv' := [(2, .int (x2 + 1)), (0, .ref (ad 0)), (1, .int a1)]) hx hb dM_advance_83 hl rfl (by rfl) (by decide) rfl (fun ls hl => ?_)
          refine lv_goto (tgt := 15) hx hb dM_advance_86 (by decide) ?_
          rw [hK15] at h
          exact h _ _ _ hP hS (lv_sub hl [1, 2, 0] rfl)
        · have h := h.2 hc
          refine lv_aload_n hx hb dM_advance_46 rfl (lv_at hl 0 rfl) ?_
          refine va_get (D := D) (ci := 6) (v := .ref (ad 18)) (C := RM) (T := TM) (N := 33) hx hb htb inM hown hK hP 0 (mw_at (by decide) (ym_0 _ _ _ _)) rfl 24 (by decide) (htb _ k2_196) (fun _ h9 => h9) rfl dM_advance_47 ?_
          refine lv_iload_n hx hb dM_advance_50 rfl (lv_at hl 2 rfl) ?_
          obtain ⟨hn21, h⟩ := h
          refine mr_iald hx hb hK hP 18 0 (by decide) rfl rfl hn21 dM_advance_51 ?_
          refine lv_iconst (v := 1) hx hb dM_advance_52 (by decide) ?_
          refine lv_isub hx hb dM_advance_53 ?_
          refine lv_goto (tgt := 63) hx hb dM_advance_54 (by decide) ?_
          obtain ⟨hn22, h⟩ := h
          refine mr_iast hx hb hK hP hD hS 18 0 (by decide) (fun _ => rfl) rfl hn22 dM_advance_63 (fun H locs hP hS => ?_)
          generalize heI23 : mu I 18 x2.toNatClampNeg ((I 18 x2.toNatClampNeg) - 1) = I23 at hP
          have h := h I23 heI23.symm
          refine lv_aload_n hx hb dM_advance_64 rfl (lv_at hl 0 rfl) ?_
          refine va_get (D := D) (ci := 6) (v := .ref (ad 21)) (C := RM) (T := TM) (N := 33) hx hb htb inM hown hK hP 0 (mw_at (by decide) (ym_0 _ _ _ _)) rfl 27 (by decide) (htb _ k2_199) (fun _ h9 => h9) rfl dM_advance_65 ?_
          refine lv_iload_n hx hb dM_advance_68 rfl (lv_at hl 2 rfl) ?_
          refine lv_aload_n hx hb dM_advance_69 rfl (lv_at hl 0 rfl) ?_
          refine va_get (D := D) (ci := 6) (v := .ref (ad 20)) (C := RM) (T := TM) (N := 33) hx hb htb inM hown hK hP 0 (mw_at (by decide) (ym_0 _ _ _ _)) rfl 26 (by decide) (htb _ k2_198) (fun _ h9 => h9) rfl dM_advance_70 ?_
          refine lv_iload_n hx hb dM_advance_73 rfl (lv_at hl 2 rfl) ?_
          obtain ⟨hn24, h⟩ := h
          refine mr_zald hx hb hK hP 20 1 (by decide) rfl rfl hn24 dM_advance_74 ?_
          obtain ⟨hn25, h⟩ := h
          refine mr_zast hx hb hK hP hD hS 21 1 (by decide) (fun _ => rfl) rfl hn25 dM_advance_75 (fun H locs hP hS => ?_)
          generalize heI26 : mu I23 21 x2.toNatClampNeg (vp_nar .boolean (I23 20 x2.toNatClampNeg)) = I26 at hP
          have h := h I26 heI26.symm
          refine lv_aload_n hx hb dM_advance_76 rfl (lv_at hl 0 rfl) ?_
          refine va_get (D := D) (ci := 6) (v := .ref (ad 20)) (C := RM) (T := TM) (N := 33) hx hb htb inM hown hK hP 0 (mw_at (by decide) (ym_0 _ _ _ _)) rfl 26 (by decide) (htb _ k2_198) (fun _ h9 => h9) rfl dM_advance_77 ?_
          refine lv_iload_n hx hb dM_advance_80 rfl (lv_at hl 2 rfl) ?_
          refine lv_iconst (v := 0) hx hb dM_advance_81 (by decide) ?_
          obtain ⟨hn27, h⟩ := h
          refine mr_zast hx hb hK hP hD hS 20 1 (by decide) (fun _ => rfl) rfl hn27 dM_advance_82 (fun H locs hP hS => ?_)
          generalize heI28 : mu I26 20 x2.toNatClampNeg (vp_nar .boolean 0) = I28 at hP
          have h := h I28 heI28.symm
          refine lv_iinc (k := 2) (v := x2 + 1) (lv' := [(2, .int (x2 + 1)), (0, .ref (ad 0)), (1, .int a1)]) hx hb dM_advance_83 hl rfl (by rfl) (by decide) rfl (fun ls hl => ?_)
          refine lv_goto (tgt := 15) hx hb dM_advance_86 (by decide) ?_
          rw [hK15] at h
          exact h _ _ _ hP hS (lv_sub hl [1, 2, 0] rfl)
  have h := P_M_advance S I0 J0 a1  hp K0 K15 (qM_advance S I0 J0 a1) c0 c15 (fun _ _ h => h)
  unfold wp_M_advance at h
  rw [hK0] at h
  exact h _ _ _ hP hS (lv_sub hl [0, 1] rfl)
def wp_M_votable (R : Int32 → mI → mJ → Prop) (I0 : mI) (J0 : mJ) (a1 : Int32) (a2 : Int32) (a3 : Int32) : Prop :=
  (vp_in a1 80 ∧ (¬ (I0 0 1) = 0 ∧ (vp_in a1 80 ∧ ((¬ ((I0 10 a1.toNatClampNeg) = (I0 0 28)) → R 0 I0 J0) ∧ ((I0 10 a1.toNatClampNeg) = (I0 0 28) → (vp_in a1 80 ∧ ((¬ ((I0 11 a1.toNatClampNeg) = (I0 0 29)) → R 0 I0 J0) ∧ ((I0 11 a1.toNatClampNeg) = (I0 0 29) → (vp_in a1 80 ∧ ((¬ ((I0 12 a1.toNatClampNeg) = ((I0 8 a1.toNatClampNeg) / (I0 0 1))) → R 0 I0 J0) ∧ ((I0 12 a1.toNatClampNeg) = ((I0 8 a1.toNatClampNeg) / (I0 0 1)) → (vp_in a1 80 ∧ ((a3 ≤ (I0 8 a1.toNatClampNeg) → R 0 I0 J0) ∧ (¬ (a3 ≤ (I0 8 a1.toNatClampNeg)) → (vp_in a1 80 ∧ (((I0 8 a1.toNatClampNeg) < (a3 - (I0 0 1)) → R 0 I0 J0) ∧ (¬ ((I0 8 a1.toNatClampNeg) < (a3 - (I0 0 1))) → (vp_in a1 80 ∧ (∃ (S9 : mI), (pM_checkpointBlock S9 I0 J0 a2 ((I0 8 a1.toNatClampNeg) / (I0 0 1)) ∧ (((I0 13 a1.toNatClampNeg) = (fM_checkpointBlock S9 I0 J0 a2 ((I0 8 a1.toNatClampNeg) / (I0 0 1))) → ((¬ (((I0 8 a1.toNatClampNeg) / (I0 0 1)) = (I0 0 23)) → (vp_in a1 80 ∧ (vp_in (I0 7 a1.toNatClampNeg) 7 ∧ ((¬ ((I0 21 (I0 7 a1.toNatClampNeg).toNatClampNeg) = 0) → R 0 I0 J0) ∧ ((I0 21 (I0 7 a1.toNatClampNeg).toNatClampNeg) = 0 → R 1 I0 J0))))) ∧ (((I0 8 a1.toNatClampNeg) / (I0 0 1)) = (I0 0 23) → (vp_in a1 80 ∧ (vp_in (I0 7 a1.toNatClampNeg) 7 ∧ ((¬ ((I0 20 (I0 7 a1.toNatClampNeg).toNatClampNeg) = 0) → R 0 I0 J0) ∧ ((I0 20 (I0 7 a1.toNatClampNeg).toNatClampNeg) = 0 → R 1 I0 J0))))))) ∧ (¬ ((I0 13 a1.toNatClampNeg) = (fM_checkpointBlock S9 I0 J0 a2 ((I0 8 a1.toNatClampNeg) / (I0 0 1)))) → R 0 I0 J0))))))))))))))))))))))
theorem P_M_votable (S : mI) (I0 : mI) (J0 : mJ) (a1 : Int32) (a2 : Int32) (a3 : Int32)  (hp : pM_votable S I0 J0 a1 a2 a3)  (R : Int32 → mI → mJ → Prop)  (hR : ∀ (r : Int32) (I' : mI) (J' : mJ), qM_votable S I0 J0 a1 a2 a3 r I' J' → R r I' J') : wp_M_votable R I0 J0 a1 a2 a3 := by
  obtain ⟨hY, ⟨i, hi, rfl⟩, ⟨p, hp0, rfl⟩, ⟨s, hs, rfl⟩, ⟨q0, hq0, hw0⟩⟩ := hp
  have hb := hY.1.b
  have vi := hY.1.v hi
  have Vi := hY.1.2.2.2.1 i hi
  unfold qM_votable at hR
  rw [cN_nI (n := i) (by omega), cN_nI (n := p) (by omega), cN_nI (n := s) (by omega)] at hR
  have no : (∀ q, mE q I0 → gW (zNv S) (zBc S) q → ¬ gOk S q p s i) → R 0 I0 J0 := fun z => hR _ _ _ ⟨rfl, rfl, Or.inl rfl, fun q hq hw => ⟨fun y => absurd y (z q hq hw), fun _ => rfl⟩⟩
  have yes : (∀ q, mE q I0 → gW (zNv S) (zBc S) q → gOk S q p s i) → R 1 I0 J0 := fun z => hR _ _ _ ⟨rfl, rfl, Or.inr rfl, fun q hq hw => ⟨fun _ => rfl, fun y => absurd (z q hq hw) y⟩⟩
  have hvi : vp_in (nI i) 80 := vp_in_nI (by omega) (by omega)
  have hv7 : vp_in (nI (zVr S i)) 7 := i7_of (by omega)
  have hz := zC_all hY.1.up hY.1.s0 (zVs S i / zLn S) p p (Nat.le_refl _) hp0
  have hd : zVs S i / zLn S ≤ 240 := Nat.le_trans (Nat.div_le_self _ _) vi.2.1
  unfold wp_M_votable fM_checkpointBlock
  rw [show (nI i).toNatClampNeg = i from nI_clamp (by omega), hY.r (j := 7) (by omega) (by omega), hY.r (j := 8) (by omega) (by omega), hY.r (j := 10) (by omega) (by omega), hY.r (j := 11) (by omega) (by omega), hY.r (j := 12) (by omega) (by omega), hY.r (j := 13) (by omega) (by omega), Vi.1, Vi.2.2.1, Vi.2.2.2.2.2.2.1, Vi.2.2.2.2.2.2.2.2.1, Vi.2.2.2.2.2.2.2.2.2.2.1, Vi.2.2.2.2.2.2.2.2.2.2.2.2.1, show (nI (zVr S i)).toNatClampNeg = zVr S i from nI_clamp (by omega), hY.ln, pk_div (a := zVs S i) (d := zLn S) (by omega) (by omega) (by omega), cN_nI (n := p) (by omega), cN_nI (n := zVs S i / zLn S) (by omega)]
  refine ⟨hvi, nI_ne0 (by omega) (by omega), hvi, fun h => no (fun q hq hw z => h (by rw [hq.2.2.1, z.1])), fun h1 => ⟨hvi, fun h => no (fun q hq hw z => h (by rw [hq.2.2.2.1, z.2.1])), fun h2 => ⟨hvi, fun h => absurd (by rw [vi.2.2.2.2.2.2.2]) h, fun h3 => ⟨hvi, fun h => no (fun q hq hw z => ?_), fun h4 => ⟨hvi, fun h => no (fun q hq hw z => ?_), fun h5 => ⟨hvi, S, ⟨hY, ⟨p, hp0, rfl⟩, ⟨_, hd, rfl⟩⟩, fun h6 => ?_, fun h => no (fun q hq hw z => h (by rw [z.2.2.2.2.1]))⟩⟩⟩⟩⟩⟩
  · rw [nI_leI (by omega) (by omega)] at h
    have := z.2.2.1
    omega
  · have h7 : ¬ (nI s - nI (zLn S) ≤ nI (zVs S i)) := Int32.not_le.mpr h
    exact h7 ((sub_le (by omega) (by omega) (by omega)).mpr z.2.2.2.1)
  · rw [nI_leI (by omega) (by omega)] at h4
    have h5 : s ≤ zVs S i + zLn S := (sub_le (by omega) (by omega) (by omega)).mp (Int32.not_lt.mp h5)
    rw [nI_eq (by omega) (by omega)] at h6
    have jj : ∀ q, mE q I0 → gW (zNv S) (zBc S) q → zSe S i = gJe q ∧ zSb S i = gJb q := fun q hq hw => by
      unfold gW at hw
      have e1 := hq.2.2.1
      have e2 := hq.2.2.2.1
      rw [← h1, nI_eq (by omega) (by omega)] at e1
      rw [← h2, nI_eq (by omega) (by omega)] at e2
      exact ⟨e1, e2⟩
    have ee : ∀ q, mE q I0 → gW (zNv S) (zBc S) q → (nI (zVs S i / zLn S) = I0 0 23 ↔ zVs S i / zLn S = gE q) := fun q hq hw => by
      rw [hq.2.1]
      exact nI_eq (by omega) (by have := hw.1; omega)
    refine ⟨fun h7 => ⟨hvi, hv7, fun h8 => no (fun q hq hw z => ?_), fun h8 => yes (fun q hq hw => ?_)⟩, fun h7 => ⟨hvi, hv7, fun h8 => no (fun q hq hw z => ?_), fun h8 => yes (fun q hq hw => ?_)⟩⟩
    · have z6 := z.2.2.2.2.2
      rw [if_neg (fun y => h7 ((ee q hq hw).mpr y))] at z6
      apply h8
      rw [(hq.1 _ (by omega)).2.2.2, z6]; rfl
    · refine ⟨(jj q hq hw).1, (jj q hq hw).2, by omega, h5, h6, ?_⟩
      rw [if_neg (fun y => h7 ((ee q hq hw).mpr y))]
      rw [(hq.1 _ (by omega)).2.2.2] at h8
      exact bz_0.mp h8
    · have z6 := z.2.2.2.2.2
      rw [if_pos ((ee q hq hw).mp h7)] at z6
      apply h8
      rw [(hq.1 _ (by omega)).2.2.1, z6]; rfl
    · refine ⟨(jj q hq hw).1, (jj q hq hw).2, by omega, h5, h6, ?_⟩
      rw [if_pos ((ee q hq hw).mp h7)]
      rw [(hq.1 _ (by omega)).2.2.1] at h8
      exact bz_0.mp h8
set_option maxHeartbeats 4000000 in
set_option maxRecDepth 100000 in
theorem C_M_votable (l : Launch) (D : va_G) (ca : Nat → Nat) (ad : Nat → Nat) (S : mI) (I0 : mI) (J0 : mJ) (a1 : Int32) (a2 : Int32) (a3 : Int32)  (hp : pM_votable S I0 J0 a1 a2 a3) : Met l yM_votable wM_votable ({ frames := 1, cells := 0, slots := 0, locals := 23 } : Room) (va_Pc [.ref (ad 0), .int a1, .int a2, .int a3] (mPre D vwCl (xty ca) 23 ad (ymk ca ad) nL I0 J0)) (mQi D vwCl 23 ad (ymk ca ad) (qM_votable S I0 J0 a1 a2 a3)) 0 0 (mA 23 ad) := by
  refine Met.ofW (cc := cM_votable) (maxL := 6) (ret := (some .boolean)) (by decide) rfl ?_
  intro p e s m args below meth c s₁ B hml hv
  obtain ⟨rfl, hP, hK, hD0, hN⟩ := hv
  have hx := B.exec
  have hb := B.bytes
  have hr := B.returns
  have htb : ∀ w ∈ wb, w.before _ s = true := fun w h => atoms_spec (ws := wM_votable) B.pre w (List.mem_cons_of_mem _ h)
  have hown : s.vm.findClass RM = some m.cls := findClass_of_methodNamed B.named
  have hlk := B.notSynchronized
  have hD := mw_Dm hD0
  have hS : va_S (mA 23 ad) s.heap s.heap [] := va_S.rf
  have hl := lv_entry ([.ref (ad 0), .int a1, .int a2, .int a3]) (n := 6) (Nat.le_of_ble_eq_true rfl)
  rw [lg_entry_eq]
  generalize (lg_sl ([.ref (ad 0), .int a1, .int a2, .int a3]) ++ List.replicate (6 - (lg_sl ([.ref (ad 0), .int a1, .int a2, .int a3])).length) Slot.unset).toArray = ls at hl ⊢
  have hl : lv_has ls 6 [(0, .ref (ad 0)), (1, .int a1), (2, .int a2), (3, .int a3)] := hl
  have h := P_M_votable S I0 J0 a1 a2 a3  hp  (qM_votable S I0 J0 a1 a2 a3)  (fun _ _ _ h => h)
  unfold wp_M_votable at h
  refine lv_aload_n hx hb dM_votable_0 rfl (lv_at hl 0 rfl) ?_
  refine va_get (D := D) (ci := 6) (v := .ref (ad 8)) (C := RM) (T := TM) (N := 33) hx hb htb inM hown hK hP 0 (mw_at (by decide) (ym_0 _ _ _ _)) rfl 13 (by decide) (htb _ k2_185) (fun _ h9 => h9) rfl dM_votable_1 ?_
  refine lv_iload_n hx hb dM_votable_4 rfl (lv_at hl 1 rfl) ?_
  obtain ⟨hn1, h⟩ := h
  refine mr_iald hx hb hK hP 8 0 (by decide) rfl rfl hn1 dM_votable_5 ?_
  refine lv_aload_n hx hb dM_votable_6 rfl (lv_at hl 0 rfl) ?_
  refine va_get (D := D) (ci := 6) (v := .int (I0 0 1)) (C := RM) (T := TM) (N := 33) hx hb htb inM hown hK hP 0 (mw_at (by decide) (ym_0 _ _ _ _)) rfl 1 (by decide) (htb _ k2_173) (fun _ h9 => h9) rfl dM_votable_7 ?_
  obtain ⟨hz2, h⟩ := h
  refine lv_idiv hx hb dM_votable_10 hz2 ?_
  refine lv_istore (lv' := [(4, .int ((I0 8 a1.toNatClampNeg) / (I0 0 1))), (0, .ref (ad 0)), (1, .int a1), (2, .int a2), (3, .int a3)]) hx hb dM_votable_11 hl (by decide) rfl (fun ls hl => ?_)
  refine lv_aload_n hx hb dM_votable_13 rfl (lv_at hl 1 rfl) ?_
  refine va_get (D := D) (ci := 6) (v := .ref (ad 10)) (C := RM) (T := TM) (N := 33) hx hb htb inM hown hK hP 0 (mw_at (by decide) (ym_0 _ _ _ _)) rfl 15 (by decide) (htb _ k2_187) (fun _ h9 => h9) rfl dM_votable_14 ?_
  refine lv_iload_n hx hb dM_votable_17 rfl (lv_at hl 2 rfl) ?_
  obtain ⟨hn3, h⟩ := h
  refine mr_iald hx hb hK hP 10 0 (by decide) rfl rfl hn3 dM_votable_18 ?_
  refine lv_aload_n hx hb dM_votable_19 rfl (lv_at hl 1 rfl) ?_
  refine va_get (D := D) (ci := 6) (v := .int (I0 0 28)) (C := RM) (T := TM) (N := 33) hx hb htb inM hown hK hP 0 (mw_at (by decide) (ym_0 _ _ _ _)) rfl 28 (by decide) (htb _ k2_200) (fun _ h9 => h9) rfl dM_votable_20 ?_
  refine lv_icmp_ne (tgt := 79) hx hb dM_votable_23 (by decide) (fun hc => ?_) (fun hc => ?_)
  · have h := h.1 hc
    refine lv_iconst (v := 0) hx hb dM_votable_79 (by decide) ?_
    refine lv_istore (lv' := [(5, .int 0), (4, .int ((I0 8 a1.toNatClampNeg) / (I0 0 1))), (0, .ref (ad 0)), (1, .int a1), (2, .int a2), (3, .int a3)]) hx hb dM_votable_80 hl (by decide) rfl (fun ls hl => ?_)
    refine lv_iload hx hb dM_votable_82 (lv_at hl 0 rfl) ?_
    refine lv_if_eq (tgt := 103) hx hb dM_votable_84 (by decide) (fun hc => ?_) (fun hc => ?_)
    · skip
      refine lv_iconst (v := 0) hx hb dM_votable_103 (by decide) ?_
      exact me_z hx hb hr hlk hP hS rfl h dM_votable_104
    · first | exact absurd hc (by decide) | exact absurd (by decide) hc
  · have h := h.2 hc
    refine lv_aload_n hx hb dM_votable_26 rfl (lv_at hl 1 rfl) ?_
    refine va_get (D := D) (ci := 6) (v := .ref (ad 11)) (C := RM) (T := TM) (N := 33) hx hb htb inM hown hK hP 0 (mw_at (by decide) (ym_0 _ _ _ _)) rfl 16 (by decide) (htb _ k2_188) (fun _ h9 => h9) rfl dM_votable_27 ?_
    refine lv_iload_n hx hb dM_votable_30 rfl (lv_at hl 2 rfl) ?_
    obtain ⟨hn4, h⟩ := h
    refine mr_iald hx hb hK hP 11 0 (by decide) rfl rfl hn4 dM_votable_31 ?_
    refine lv_aload_n hx hb dM_votable_32 rfl (lv_at hl 1 rfl) ?_
    refine va_get (D := D) (ci := 6) (v := .int (I0 0 29)) (C := RM) (T := TM) (N := 33) hx hb htb inM hown hK hP 0 (mw_at (by decide) (ym_0 _ _ _ _)) rfl 29 (by decide) (htb _ k2_201) (fun _ h9 => h9) rfl dM_votable_33 ?_
    refine lv_icmp_ne (tgt := 79) hx hb dM_votable_36 (by decide) (fun hc => ?_) (fun hc => ?_)
    · have h := h.1 hc
      refine lv_iconst (v := 0) hx hb dM_votable_79 (by decide) ?_
      refine lv_istore (lv' := [(5, .int 0), (4, .int ((I0 8 a1.toNatClampNeg) / (I0 0 1))), (0, .ref (ad 0)), (1, .int a1), (2, .int a2), (3, .int a3)]) hx hb dM_votable_80 hl (by decide) rfl (fun ls hl => ?_)
      refine lv_iload hx hb dM_votable_82 (lv_at hl 0 rfl) ?_
      refine lv_if_eq (tgt := 103) hx hb dM_votable_84 (by decide) (fun hc => ?_) (fun hc => ?_)
      · skip
        refine lv_iconst (v := 0) hx hb dM_votable_103 (by decide) ?_
        exact me_z hx hb hr hlk hP hS rfl h dM_votable_104
      · first | exact absurd hc (by decide) | exact absurd (by decide) hc
    · have h := h.2 hc
      refine lv_aload_n hx hb dM_votable_39 rfl (lv_at hl 1 rfl) ?_
      refine va_get (D := D) (ci := 6) (v := .ref (ad 12)) (C := RM) (T := TM) (N := 33) hx hb htb inM hown hK hP 0 (mw_at (by decide) (ym_0 _ _ _ _)) rfl 17 (by decide) (htb _ k2_189) (fun _ h9 => h9) rfl dM_votable_40 ?_
      refine lv_iload_n hx hb dM_votable_43 rfl (lv_at hl 2 rfl) ?_
      obtain ⟨hn5, h⟩ := h
      refine mr_iald hx hb hK hP 12 0 (by decide) rfl rfl hn5 dM_votable_44 ?_
      refine lv_iload hx hb dM_votable_45 (lv_at hl 0 rfl) ?_
      refine lv_icmp_ne (tgt := 79) hx hb dM_votable_47 (by decide) (fun hc => ?_) (fun hc => ?_)
      · have h := h.1 hc
        refine lv_iconst (v := 0) hx hb dM_votable_79 (by decide) ?_
        refine lv_istore (lv' := [(5, .int 0), (4, .int ((I0 8 a1.toNatClampNeg) / (I0 0 1))), (0, .ref (ad 0)), (1, .int a1), (2, .int a2), (3, .int a3)]) hx hb dM_votable_80 hl (by decide) rfl (fun ls hl => ?_)
        refine lv_iload hx hb dM_votable_82 (lv_at hl 0 rfl) ?_
        refine lv_if_eq (tgt := 103) hx hb dM_votable_84 (by decide) (fun hc => ?_) (fun hc => ?_)
        · skip
          refine lv_iconst (v := 0) hx hb dM_votable_103 (by decide) ?_
          exact me_z hx hb hr hlk hP hS rfl h dM_votable_104
        · first | exact absurd hc (by decide) | exact absurd (by decide) hc
      · have h := h.2 hc
        refine lv_aload_n hx hb dM_votable_50 rfl (lv_at hl 1 rfl) ?_
        refine va_get (D := D) (ci := 6) (v := .ref (ad 8)) (C := RM) (T := TM) (N := 33) hx hb htb inM hown hK hP 0 (mw_at (by decide) (ym_0 _ _ _ _)) rfl 13 (by decide) (htb _ k2_185) (fun _ h9 => h9) rfl dM_votable_51 ?_
        refine lv_iload_n hx hb dM_votable_54 rfl (lv_at hl 2 rfl) ?_
        obtain ⟨hn6, h⟩ := h
        refine mr_iald hx hb hK hP 8 0 (by decide) rfl rfl hn6 dM_votable_55 ?_
        refine lv_iload_n hx hb dM_votable_56 rfl (lv_at hl 4 rfl) ?_
        refine lv_icmp_ge (tgt := 79) hx hb dM_votable_57 (by decide) (fun hc => ?_) (fun hc => ?_)
        · have h := h.1 hc
          refine lv_iconst (v := 0) hx hb dM_votable_79 (by decide) ?_
          refine lv_istore (lv' := [(5, .int 0), (4, .int ((I0 8 a1.toNatClampNeg) / (I0 0 1))), (0, .ref (ad 0)), (1, .int a1), (2, .int a2), (3, .int a3)]) hx hb dM_votable_80 hl (by decide) rfl (fun ls hl => ?_)
          refine lv_iload hx hb dM_votable_82 (lv_at hl 0 rfl) ?_
          refine lv_if_eq (tgt := 103) hx hb dM_votable_84 (by decide) (fun hc => ?_) (fun hc => ?_)
          · skip
            refine lv_iconst (v := 0) hx hb dM_votable_103 (by decide) ?_
            exact me_z hx hb hr hlk hP hS rfl h dM_votable_104
          · first | exact absurd hc (by decide) | exact absurd (by decide) hc
        · have h := h.2 hc
          refine lv_aload_n hx hb dM_votable_60 rfl (lv_at hl 1 rfl) ?_
          refine va_get (D := D) (ci := 6) (v := .ref (ad 8)) (C := RM) (T := TM) (N := 33) hx hb htb inM hown hK hP 0 (mw_at (by decide) (ym_0 _ _ _ _)) rfl 13 (by decide) (htb _ k2_185) (fun _ h9 => h9) rfl dM_votable_61 ?_
          refine lv_iload_n hx hb dM_votable_64 rfl (lv_at hl 2 rfl) ?_
          obtain ⟨hn7, h⟩ := h
          refine mr_iald hx hb hK hP 8 0 (by decide) rfl rfl hn7 dM_votable_65 ?_
          refine lv_iload_n hx hb dM_votable_66 rfl (lv_at hl 4 rfl) ?_
          refine lv_aload_n hx hb dM_votable_67 rfl (lv_at hl 1 rfl) ?_
          refine va_get (D := D) (ci := 6) (v := .int (I0 0 1)) (C := RM) (T := TM) (N := 33) hx hb htb inM hown hK hP 0 (mw_at (by decide) (ym_0 _ _ _ _)) rfl 1 (by decide) (htb _ k2_173) (fun _ h9 => h9) rfl dM_votable_68 ?_
          refine lv_isub hx hb dM_votable_71 ?_
          refine lv_icmp_lt (tgt := 79) hx hb dM_votable_72 (by decide) (fun hc => ?_) (fun hc => ?_)
          · have h := h.1 hc
            refine lv_iconst (v := 0) hx hb dM_votable_79 (by decide) ?_
            refine lv_istore (lv' := [(5, .int 0), (4, .int ((I0 8 a1.toNatClampNeg) / (I0 0 1))), (0, .ref (ad 0)), (1, .int a1), (2, .int a2), (3, .int a3)]) hx hb dM_votable_80 hl (by decide) rfl (fun ls hl => ?_)
            refine lv_iload hx hb dM_votable_82 (lv_at hl 0 rfl) ?_
            refine lv_if_eq (tgt := 103) hx hb dM_votable_84 (by decide) (fun hc => ?_) (fun hc => ?_)
            · skip
              refine lv_iconst (v := 0) hx hb dM_votable_103 (by decide) ?_
              exact me_z hx hb hr hlk hP hS rfl h dM_votable_104
            · first | exact absurd hc (by decide) | exact absurd (by decide) hc
          · have h := h.2 hc
            refine lv_iconst (v := 1) hx hb dM_votable_75 (by decide) ?_
            refine lv_goto (tgt := 80) hx hb dM_votable_76 (by decide) ?_
            refine lv_istore (lv' := [(5, .int 1), (4, .int ((I0 8 a1.toNatClampNeg) / (I0 0 1))), (0, .ref (ad 0)), (1, .int a1), (2, .int a2), (3, .int a3)]) hx hb dM_votable_80 hl (by decide) rfl (fun ls hl => ?_)
            refine lv_iload hx hb dM_votable_82 (lv_at hl 0 rfl) ?_
            refine lv_if_eq (tgt := 103) hx hb dM_votable_84 (by decide) (fun hc => ?_) (fun hc => ?_)
            · first | exact absurd hc (by decide) | exact absurd (by decide) hc
            · skip
              refine lv_aload_n hx hb dM_votable_87 rfl (lv_at hl 2 rfl) ?_
              refine va_get (D := D) (ci := 6) (v := .ref (ad 13)) (C := RM) (T := TM) (N := 33) hx hb htb inM hown hK hP 0 (mw_at (by decide) (ym_0 _ _ _ _)) rfl 18 (by decide) (htb _ k2_190) (fun _ h9 => h9) rfl dM_votable_88 ?_
              refine lv_iload_n hx hb dM_votable_91 rfl (lv_at hl 3 rfl) ?_
              obtain ⟨hn8, h⟩ := h
              refine mr_iald hx hb hK hP 13 0 (by decide) rfl rfl hn8 dM_votable_92 ?_
              refine lv_aload_n hx hb dM_votable_93 rfl (lv_at hl 2 rfl) ?_
              refine lv_iload_n hx hb dM_votable_94 rfl (lv_at hl 4 rfl) ?_
              refine lv_iload hx hb dM_votable_95 (lv_at hl 1 rfl) ?_
              obtain ⟨S9, h⟩ := h
              obtain ⟨hp10, h⟩ := h
              refine mc_r (va_runV (As := [.int a2, .int ((I0 8 a1.toNatClampNeg) / (I0 0 1))]) (rest := [.int (I0 13 a1.toNatClampNeg)]) ⟨hx, hb, hml, hown, htb⟩ (C_M_checkpointBlock l D ca ad S9 I0 J0 a2 ((I0 8 a1.toNatClampNeg) / (I0 0 1)) hp10) (cwV 2 htb (gd_v k3_71 k3_73 ks27 k1_8 k3_74) rfl rfl rfl (by decide +kernel) ⟨Nat.le_of_ble_eq_true rfl, Nat.le_of_ble_eq_true rfl⟩) (mPre_V hK hP hD hN rfl (mw_at (by decide) (ym_0 _ _ _ _))) rfl rfl hl.1 rfl (lv_room (Nat.le_of_ble_eq_true rfl)) dM_votable_97 ⟨Nat.le_of_ble_eq_true rfl, Nat.le_of_ble_eq_true rfl⟩) hS (fun H locs hP hS => ?_)
              refine lv_icmp_eq (tgt := 105) hx hb dM_votable_100 (by decide) (fun hc => ?_) (fun hc => ?_)
              · have h := h.1 hc
                refine lv_iload hx hb dM_votable_105 (lv_at hl 1 rfl) ?_
                refine lv_aload_n hx hb dM_votable_107 rfl (lv_at hl 2 rfl) ?_
                refine va_get (D := D) (ci := 6) (v := .int (I0 0 23)) (C := RM) (T := TM) (N := 33) hx hb htb inM hown hK hP 0 (mw_at (by decide) (ym_0 _ _ _ _)) rfl 23 (by decide) (htb _ k2_195) (fun _ h9 => h9) rfl dM_votable_108 ?_
                refine lv_icmp_ne (tgt := 136) hx hb dM_votable_111 (by decide) (fun hc => ?_) (fun hc => ?_)
                · have h := h.1 hc
                  refine lv_aload_n hx hb dM_votable_136 rfl (lv_at hl 2 rfl) ?_
                  refine va_get (D := D) (ci := 6) (v := .ref (ad 21)) (C := RM) (T := TM) (N := 33) hx hb htb inM hown hK hP 0 (mw_at (by decide) (ym_0 _ _ _ _)) rfl 27 (by decide) (htb _ k2_199) (fun _ h9 => h9) rfl dM_votable_137 ?_
                  refine lv_aload_n hx hb dM_votable_140 rfl (lv_at hl 2 rfl) ?_
                  refine va_get (D := D) (ci := 6) (v := .ref (ad 7)) (C := RM) (T := TM) (N := 33) hx hb htb inM hown hK hP 0 (mw_at (by decide) (ym_0 _ _ _ _)) rfl 12 (by decide) (htb _ k2_184) (fun _ h9 => h9) rfl dM_votable_141 ?_
                  refine lv_iload_n hx hb dM_votable_144 rfl (lv_at hl 3 rfl) ?_
                  obtain ⟨hn11, h⟩ := h
                  refine mr_iald hx hb hK hP 7 0 (by decide) rfl rfl hn11 dM_votable_145 ?_
                  obtain ⟨hn12, h⟩ := h
                  refine mr_zald hx hb hK hP 21 1 (by decide) rfl rfl hn12 dM_votable_146 ?_
                  refine lv_if_ne (tgt := 154) hx hb dM_votable_147 (by decide) (fun hc => ?_) (fun hc => ?_)
                  · have h := h.1 hc
                    refine lv_iconst (v := 0) hx hb dM_votable_154 (by decide) ?_
                    exact me_z hx hb hr hlk hP hS rfl h dM_votable_155
                  · have h := h.2 hc
                    refine lv_iconst (v := 1) hx hb dM_votable_150 (by decide) ?_
                    refine lv_goto (tgt := 155) hx hb dM_votable_151 (by decide) ?_
                    exact me_z hx hb hr hlk hP hS rfl h dM_votable_155
                · have h := h.2 hc
                  refine lv_aload_n hx hb dM_votable_114 rfl (lv_at hl 2 rfl) ?_
                  refine va_get (D := D) (ci := 6) (v := .ref (ad 20)) (C := RM) (T := TM) (N := 33) hx hb htb inM hown hK hP 0 (mw_at (by decide) (ym_0 _ _ _ _)) rfl 26 (by decide) (htb _ k2_198) (fun _ h9 => h9) rfl dM_votable_115 ?_
                  refine lv_aload_n hx hb dM_votable_118 rfl (lv_at hl 2 rfl) ?_
                  refine va_get (D := D) (ci := 6) (v := .ref (ad 7)) (C := RM) (T := TM) (N := 33) hx hb htb inM hown hK hP 0 (mw_at (by decide) (ym_0 _ _ _ _)) rfl 12 (by decide) (htb _ k2_184) (fun _ h9 => h9) rfl dM_votable_119 ?_
                  refine lv_iload_n hx hb dM_votable_122 rfl (lv_at hl 3 rfl) ?_
                  obtain ⟨hn13, h⟩ := h
                  refine mr_iald hx hb hK hP 7 0 (by decide) rfl rfl hn13 dM_votable_123 ?_
                  obtain ⟨hn14, h⟩ := h
                  refine mr_zald hx hb hK hP 20 1 (by decide) rfl rfl hn14 dM_votable_124 ?_
                  refine lv_if_ne (tgt := 132) hx hb dM_votable_125 (by decide) (fun hc => ?_) (fun hc => ?_)
                  · have h := h.1 hc
                    refine lv_iconst (v := 0) hx hb dM_votable_132 (by decide) ?_
                    refine lv_goto (tgt := 155) hx hb dM_votable_133 (by decide) ?_
                    exact me_z hx hb hr hlk hP hS rfl h dM_votable_155
                  · have h := h.2 hc
                    refine lv_iconst (v := 1) hx hb dM_votable_128 (by decide) ?_
                    refine lv_goto (tgt := 155) hx hb dM_votable_129 (by decide) ?_
                    exact me_z hx hb hr hlk hP hS rfl h dM_votable_155
              · have h := h.2 hc
                refine lv_iconst (v := 0) hx hb dM_votable_103 (by decide) ?_
                exact me_z hx hb hr hlk hP hS rfl h dM_votable_104
def wp_M_weightOf_4 (K4 : mI → mJ → Int32 → Int32 → Prop) (R : Int32 → mI → mJ → Prop) (I : mI) (J : mJ) (a1 : Int32) (x2 : Int32) (x3 : Int32) : Prop :=
  (((I 0 0) ≤ x3 → R x2 I J) ∧ (¬ ((I 0 0) ≤ x3) → ((a1 = 0 → (vp_in x3 7 ∧ (((I 21 x3.toNatClampNeg) = 0 → K4 I J (x2 + 0) (x3 + 1)) ∧ (¬ ((I 21 x3.toNatClampNeg) = 0) → (vp_in x3 7 ∧ K4 I J (x2 + (I 1 x3.toNatClampNeg)) (x3 + 1)))))) ∧ (¬ (a1 = 0) → (vp_in x3 7 ∧ (((I 20 x3.toNatClampNeg) = 0 → K4 I J (x2 + 0) (x3 + 1)) ∧ (¬ ((I 20 x3.toNatClampNeg) = 0) → (vp_in x3 7 ∧ K4 I J (x2 + (I 1 x3.toNatClampNeg)) (x3 + 1)))))))))
def wp_M_weightOf (K4 : mI → mJ → Int32 → Int32 → Prop) (R : Int32 → mI → mJ → Prop) (I0 : mI) (J0 : mJ) (a1 : Int32) : Prop :=
  K4 I0 J0 0 0
theorem P_M_weightOf (S : mI) (I0 : mI) (J0 : mJ) (a1 : Int32)  (hp : pM_weightOf S I0 J0 a1) (K4 : mI → mJ → Int32 → Int32 → Prop) (R : Int32 → mI → mJ → Prop) (c4 : ∀ (I : mI) (J : mJ) (x2 : Int32) (x3 : Int32), wp_M_weightOf_4 K4 R I J a1 x2 x3 → K4 I J x2 x3) (hR : R (fM_weightOf S I0 J0 a1) I0 J0) : wp_M_weightOf K4 R I0 J0 a1 := by
  have hY : YR S I0 := hp
  have hb := hY.1.b
  unfold fM_weightOf at hR
  generalize hge : (fun v => !decide ((if a1 = 0 then I0 21 v else I0 20 v) = 0)) = g at hR
  have key : ∀ m n, n + m = zNv S → K4 I0 J0 (zSum S g n) (nI n) := by
    intro m
    induction m with
    | zero =>
      intro n hn
      have hn : n = zNv S := by omega
      subst hn
      apply c4
      unfold wp_M_weightOf_4
      rw [hY.nv]
      exact ⟨fun _ => hR, fun h => absurd (nI_le (Nat.le_refl _) (by omega)) h⟩
    | succ m ih =>
      intro n hn
      have hi := ih (n + 1) (by omega)
      have hgn : g n = !decide ((if a1 = 0 then I0 21 n else I0 20 n) = 0) := by rw [← hge]
      have i7 : vp_in (nI n) 7 := i7_of (by omega)
      apply c4
      unfold wp_M_weightOf_4
      rw [hY.nv, show (nI n).toNatClampNeg = n from nI_clamp (by omega), nI_1, hY.r (j := 1) (by omega) (by omega), Int32.add_zero]
      refine ⟨fun h => absurd h (nI_ge (by omega) (by omega)), fun _ => ⟨fun h => ⟨i7, fun h2 => ?_, fun h2 => ⟨i7, ?_⟩⟩, fun h => ⟨i7, fun h2 => ?_, fun h2 => ⟨i7, ?_⟩⟩⟩⟩
      · rw [if_pos h, decide_eq_true h2] at hgn
        rw [zSum_f hgn] at hi; exact hi
      · rw [if_pos h, decide_eq_false h2] at hgn
        rw [zSum_t hgn] at hi; exact hi
      · rw [if_neg h, decide_eq_true h2] at hgn
        rw [zSum_f hgn] at hi; exact hi
      · rw [if_neg h, decide_eq_false h2] at hgn
        rw [zSum_t hgn] at hi; exact hi
  exact key (zNv S) 0 (by omega)
set_option maxHeartbeats 4000000 in
set_option maxRecDepth 100000 in
theorem C_M_weightOf (l : Launch) (D : va_G) (ca : Nat → Nat) (ad : Nat → Nat) (S : mI) (I0 : mI) (J0 : mJ) (a1 : Int32)  (hp : pM_weightOf S I0 J0 a1) : Met l yM_weightOf wM_weightOf ({ frames := 0, cells := 0, slots := 0, locals := 0 } : Room) (va_Pc [.ref (ad 0), .int a1] (mPre D vwCl (xty ca) 23 ad (ymk ca ad) nL I0 J0)) (mQi D vwCl 23 ad (ymk ca ad) (fun r I' J' => r = fM_weightOf S I0 J0 a1 ∧ I' = I0 ∧ J' = J0)) 0 0 (mA 23 ad) := by
  refine Met.ofW (cc := cM_weightOf) (maxL := 4) (ret := (some .int)) (by decide) rfl ?_
  intro p e s m args below meth c s₁ B hml hv
  obtain ⟨rfl, hP, hK, hD0, hN⟩ := hv
  have hx := B.exec
  have hb := B.bytes
  have hr := B.returns
  have htb : ∀ w ∈ wb, w.before _ s = true := fun w h => atoms_spec (ws := wM_weightOf) B.pre w (List.mem_cons_of_mem _ h)
  have hown : s.vm.findClass RM = some m.cls := findClass_of_methodNamed B.named
  have hlk := B.notSynchronized
  have hD := mw_Dm hD0
  have hS : va_S (mA 23 ad) s.heap s.heap [] := va_S.rf
  have hl := lv_entry ([.ref (ad 0), .int a1]) (n := 4) (Nat.le_of_ble_eq_true rfl)
  rw [lg_entry_eq]
  generalize (lg_sl ([.ref (ad 0), .int a1]) ++ List.replicate (4 - (lg_sl ([.ref (ad 0), .int a1])).length) Slot.unset).toArray = ls at hl ⊢
  have hl : lv_has ls 4 [(0, .ref (ad 0)), (1, .int a1)] := hl
  obtain ⟨K4, hK4⟩ : ∃ K : mI → mJ → Int32 → Int32 → Prop, K = (fun I J x2 x3 => ∀ (H : Heap) (locs : List Loc) (ls : Array Slot), va_P D vwCl (mw 23 ad (ymk ca ad) I J) H → va_S (mA 23 ad) s.heap H locs → lv_has ls 4 [(0, .ref (ad 0)), (1, .int a1), (2, .int x2), (3, .int x3)] → W p l e (headSpec wM_weightOf ({ frames := 0, cells := 0, slots := 0, locals := 0 } : Room)).room s m (([.ref (ad 0), .int a1] : List Value).toArray) below meth c H locs 0 0 (MQ below (mQi D vwCl 23 ad (ymk ca ad) (fun r I' J' => r = fM_weightOf S I0 J0 a1 ∧ I' = I0 ∧ J' = J0)) (([.ref (ad 0), .int a1] : List Value).toArray) s 0 0 (mA 23 ad)) (F0 m 4 ls [])) := ⟨_, rfl⟩
  have c4 : ∀ (I : mI) (J : mJ) (x2 : Int32) (x3 : Int32), wp_M_weightOf_4 K4 (fun r I' J' => r = fM_weightOf S I0 J0 a1 ∧ I' = I0 ∧ J' = J0) I J a1 x2 x3 → K4 I J x2 x3 := by
    intro I J x2 x3 h
    rw [hK4]
    intro H locs ls hP hS hl
    unfold wp_M_weightOf_4 at h
    refine lv_iload_n hx hb dM_weightOf_4 rfl (lv_at hl 3 rfl) ?_
    refine lv_aload_n hx hb dM_weightOf_5 rfl (lv_at hl 0 rfl) ?_
    refine va_get (D := D) (ci := 6) (v := .int (I 0 0)) (C := RM) (T := TM) (N := 33) hx hb htb inM hown hK hP 0 (mw_at (by decide) (ym_0 _ _ _ _)) rfl 0 (by decide) (htb _ k2_172) (fun _ h9 => h9) rfl dM_weightOf_6 ?_
    refine lv_icmp_ge (tgt := 56) hx hb dM_weightOf_9 (by decide) (fun hc => ?_) (fun hc => ?_)
    · have h := h.1 hc
      refine lv_iload_n hx hb dM_weightOf_56 rfl (lv_at hl 2 rfl) ?_
      exact me_i hx hb hr hlk hP hS h dM_weightOf_57
    · have h := h.2 hc
      refine lv_iload_n hx hb dM_weightOf_12 rfl (lv_at hl 2 rfl) ?_
      refine lv_iload_n hx hb dM_weightOf_13 rfl (lv_at hl 1 rfl) ?_
      refine lv_if_eq (tgt := 29) hx hb dM_weightOf_14 (by decide) (fun hc => ?_) (fun hc => ?_)
      · have h := h.1 hc
        refine lv_aload_n hx hb dM_weightOf_29 rfl (lv_at hl 0 rfl) ?_
        refine va_get (D := D) (ci := 6) (v := .ref (ad 21)) (C := RM) (T := TM) (N := 33) hx hb htb inM hown hK hP 0 (mw_at (by decide) (ym_0 _ _ _ _)) rfl 27 (by decide) (htb _ k2_199) (fun _ h9 => h9) rfl dM_weightOf_30 ?_
        refine lv_iload_n hx hb dM_weightOf_33 rfl (lv_at hl 3 rfl) ?_
        obtain ⟨hn1, h⟩ := h
        refine mr_zald hx hb hK hP 21 1 (by decide) rfl rfl hn1 dM_weightOf_34 ?_
        refine lv_if_eq (tgt := 47) hx hb dM_weightOf_35 (by decide) (fun hc => ?_) (fun hc => ?_)
        · have h := h.1 hc
          refine lv_iconst (v := 0) hx hb dM_weightOf_47 (by decide) ?_
          refine lv_iadd hx hb dM_weightOf_48 ?_
          refine lv_istore_n (lv' := [(2, .int (x2 + 0)), (0, .ref (ad 0)), (1, .int a1), (3, .int x3)]) hx hb dM_weightOf_49 rfl hl (by decide) rfl (fun ls hl => ?_)
          refine lv_iinc (k := 3) (v := x3 + 1) (lv' := [(3, .int (x3 + 1)), (2, .int (x2 + 0)), (0, .ref (ad 0)), (1, .int a1)]) hx hb dM_weightOf_50 hl rfl (by rfl) (by decide) rfl (fun ls hl => ?_)
          refine lv_goto (tgt := 4) hx hb dM_weightOf_53 (by decide) ?_
          rw [hK4] at h
          exact h _ _ _ hP hS (lv_sub hl [2, 3, 1, 0] rfl)
        · have h := h.2 hc
          refine lv_aload_n hx hb dM_weightOf_38 rfl (lv_at hl 0 rfl) ?_
          refine va_get (D := D) (ci := 6) (v := .ref (ad 1)) (C := RM) (T := TM) (N := 33) hx hb htb inM hown hK hP 0 (mw_at (by decide) (ym_0 _ _ _ _)) rfl 2 (by decide) (htb _ k2_174) (fun _ h9 => h9) rfl dM_weightOf_39 ?_
          refine lv_iload_n hx hb dM_weightOf_42 rfl (lv_at hl 3 rfl) ?_
          obtain ⟨hn2, h⟩ := h
          refine mr_iald hx hb hK hP 1 0 (by decide) rfl rfl hn2 dM_weightOf_43 ?_
          refine lv_goto (tgt := 48) hx hb dM_weightOf_44 (by decide) ?_
          refine lv_iadd hx hb dM_weightOf_48 ?_
          refine lv_istore_n (lv' := [(2, .int (x2 + (I 1 x3.toNatClampNeg))), (0, .ref (ad 0)), (1, .int a1), (3, .int x3)]) hx hb dM_weightOf_49 rfl hl (by decide) rfl (fun ls hl => ?_)
          refine lv_iinc (k := 3) (v := x3 + 1) (lv' := [(3, .int (x3 + 1)), (2, .int (x2 + (I 1 x3.toNatClampNeg))), (0, .ref (ad 0)), (1, .int a1)]) hx hb dM_weightOf_50 hl rfl (by rfl) (by decide) rfl (fun ls hl => ?_)
          refine lv_goto (tgt := 4) hx hb dM_weightOf_53 (by decide) ?_
          rw [hK4] at h
          exact h _ _ _ hP hS (lv_sub hl [2, 3, 1, 0] rfl)
      · have h := h.2 hc
        refine lv_aload_n hx hb dM_weightOf_17 rfl (lv_at hl 0 rfl) ?_
        refine va_get (D := D) (ci := 6) (v := .ref (ad 20)) (C := RM) (T := TM) (N := 33) hx hb htb inM hown hK hP 0 (mw_at (by decide) (ym_0 _ _ _ _)) rfl 26 (by decide) (htb _ k2_198) (fun _ h9 => h9) rfl dM_weightOf_18 ?_
        refine lv_iload_n hx hb dM_weightOf_21 rfl (lv_at hl 3 rfl) ?_
        obtain ⟨hn3, h⟩ := h
        refine mr_zald hx hb hK hP 20 1 (by decide) rfl rfl hn3 dM_weightOf_22 ?_
        refine lv_if_eq (tgt := 47) hx hb dM_weightOf_23 (by decide) (fun hc => ?_) (fun hc => ?_)
        · have h := h.1 hc
          refine lv_iconst (v := 0) hx hb dM_weightOf_47 (by decide) ?_
          refine lv_iadd hx hb dM_weightOf_48 ?_
          refine lv_istore_n (lv' := [(2, .int (x2 + 0)), (0, .ref (ad 0)), (1, .int a1), (3, .int x3)]) hx hb dM_weightOf_49 rfl hl (by decide) rfl (fun ls hl => ?_)
          refine lv_iinc (k := 3) (v := x3 + 1) (lv' := [(3, .int (x3 + 1)), (2, .int (x2 + 0)), (0, .ref (ad 0)), (1, .int a1)]) hx hb dM_weightOf_50 hl rfl (by rfl) (by decide) rfl (fun ls hl => ?_)
          refine lv_goto (tgt := 4) hx hb dM_weightOf_53 (by decide) ?_
          rw [hK4] at h
          exact h _ _ _ hP hS (lv_sub hl [2, 3, 1, 0] rfl)
        · have h := h.2 hc
          refine lv_goto (tgt := 38) hx hb dM_weightOf_26 (by decide) ?_
          refine lv_aload_n hx hb dM_weightOf_38 rfl (lv_at hl 0 rfl) ?_
          refine va_get (D := D) (ci := 6) (v := .ref (ad 1)) (C := RM) (T := TM) (N := 33) hx hb htb inM hown hK hP 0 (mw_at (by decide) (ym_0 _ _ _ _)) rfl 2 (by decide) (htb _ k2_174) (fun _ h9 => h9) rfl dM_weightOf_39 ?_
          refine lv_iload_n hx hb dM_weightOf_42 rfl (lv_at hl 3 rfl) ?_
          obtain ⟨hn4, h⟩ := h
          refine mr_iald hx hb hK hP 1 0 (by decide) rfl rfl hn4 dM_weightOf_43 ?_
          refine lv_goto (tgt := 48) hx hb dM_weightOf_44 (by decide) ?_
          refine lv_iadd hx hb dM_weightOf_48 ?_
          refine lv_istore_n (lv' := [(2, .int (x2 + (I 1 x3.toNatClampNeg))), (0, .ref (ad 0)), (1, .int a1), (3, .int x3)]) hx hb dM_weightOf_49 rfl hl (by decide) rfl (fun ls hl => ?_)
          refine lv_iinc (k := 3) (v := x3 + 1) (lv' := [(3, .int (x3 + 1)), (2, .int (x2 + (I 1 x3.toNatClampNeg))), (0, .ref (ad 0)), (1, .int a1)]) hx hb dM_weightOf_50 hl rfl (by rfl) (by decide) rfl (fun ls hl => ?_)
          refine lv_goto (tgt := 4) hx hb dM_weightOf_53 (by decide) ?_
          rw [hK4] at h
          exact h _ _ _ hP hS (lv_sub hl [2, 3, 1, 0] rfl)
  have h := P_M_weightOf S I0 J0 a1  hp K4 (fun r I' J' => r = fM_weightOf S I0 J0 a1 ∧ I' = I0 ∧ J' = J0) c4 ⟨rfl, rfl, rfl⟩
  unfold wp_M_weightOf at h
  refine lv_iconst (v := 0) hx hb dM_weightOf_0 (by decide) ?_
  refine lv_istore_n (lv' := [(2, .int 0), (0, .ref (ad 0)), (1, .int a1)]) hx hb dM_weightOf_1 rfl hl (by decide) rfl (fun ls hl => ?_)
  refine lv_iconst (v := 0) hx hb dM_weightOf_2 (by decide) ?_
  refine lv_istore_n (lv' := [(3, .int 0), (2, .int 0), (0, .ref (ad 0)), (1, .int a1)]) hx hb dM_weightOf_3 rfl hl (by decide) rfl (fun ls hl => ?_)
  rw [hK4] at h
  exact h _ _ _ hP hS (lv_sub hl [2, 3, 1, 0] rfl)
