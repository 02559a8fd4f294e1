theorem nl_0 {U : State} (h : mNW nL U) : va_Nw (.methodLinkNest "FinalityTree" 38 ⟨"FinalityTree$Block", "<init>", "()V"⟩ "FinalityTree") U := h ("FinalityTree", 38, ⟨"FinalityTree$Block", "<init>", "()V"⟩, "FinalityTree") (List.mem_of_getElem? (i := 0) rfl)
theorem nl_1 {U : State} (h : mNW nL U) : va_Nw (.methodLinkNest "FinalityTree$Block" 21 ⟨"FinalityTree$Items", "<init>", "()V"⟩ "FinalityTree") U := h ("FinalityTree$Block", 21, ⟨"FinalityTree$Items", "<init>", "()V"⟩, "FinalityTree") (List.mem_of_getElem? (i := 1) rfl)
theorem nl_2 {U : State} (h : mNW nL U) : va_Nw (.methodLinkNest "FinalityTree" 45 ⟨"FinalityTree$Vote", "<init>", "()V"⟩ "FinalityTree") U := h ("FinalityTree", 45, ⟨"FinalityTree$Vote", "<init>", "()V"⟩, "FinalityTree") (List.mem_of_getElem? (i := 2) rfl)
theorem nl_3 {U : State} (h : mNW nL U) : va_Nw (.methodLinkNest "FinalityTree" 55 ⟨"FinalityTree$Items", "<init>", "()V"⟩ "FinalityTree") U := h ("FinalityTree", 55, ⟨"FinalityTree$Items", "<init>", "()V"⟩, "FinalityTree") (List.mem_of_getElem? (i := 3) rfl)
theorem nl_4 {U : State} (h : mNW nL U) : va_Nw (.methodLinkNest "FinalityTree$Vote" 13 ⟨"FinalityTree", "epochOf", "(I)I"⟩ "FinalityTree") U := h ("FinalityTree$Vote", 13, ⟨"FinalityTree", "epochOf", "(I)I"⟩, "FinalityTree") (List.mem_of_getElem? (i := 4) rfl)
theorem nl_5 {U : State} (h : mNW nL U) : va_Nw (.methodLinkNest "FinalityTree$State" 40 ⟨"FinalityTree", "isIn", "(II)Z"⟩ "FinalityTree") U := h ("FinalityTree$State", 40, ⟨"FinalityTree", "isIn", "(II)Z"⟩, "FinalityTree") (List.mem_of_getElem? (i := 5) rfl)
theorem nl_6 {U : State} (h : mNW nL U) : va_Nw (.methodLinkNest "FinalityTree$State" 44 ⟨"FinalityTree", "epochOf", "(I)I"⟩ "FinalityTree") U := h ("FinalityTree$State", 44, ⟨"FinalityTree", "epochOf", "(I)I"⟩, "FinalityTree") (List.mem_of_getElem? (i := 6) rfl)
def fIn (x lim : Int32) : Int32 := if x < 0 then 0 else if lim ≤ x then 0 else 1
def fF_isValidator (I : mI) (_ : mJ) (v : Int32) : Int32 := fIn v (I 0 0)
def fF_isBlock (I : mI) (_ : mJ) (b : Int32) : Int32 := fIn b (I 0 5)
def fF_isVote (I : mI) (_ : mJ) (i : Int32) : Int32 := fIn i (I 0 7)
def fF_isNode (_ : mI) (_ : mJ) (n : Int32) : Int32 := fIn n 3
def fBit (x v : Int32) : Int32 := if (x >>> (v &&& 31)) &&& 1 = 0 then 0 else 1
def fF_isIn (_ : mI) (_ : mJ) (x v : Int32) : Int32 := fBit x v
def fF_checkpointOf (_ : mI) (_ : mJ) (e b : Int32) : Int32 := (e <<< ((6 : Int32) &&& 31)) ||| b
def fEp (c : Int32) : Int32 := c >>> ((6 : Int32) &&& 31)
def fF_epochOf (_ : mI) (_ : mJ) (c : Int32) : Int32 := fEp c
def fF_blockOf (_ : mI) (_ : mJ) (c : Int32) : Int32 := c &&& 63
def fLit (x : Int64) (b : Int32) : Int32 := if lg_cmp ((x >>> (b.toInt64 &&& 63)) &&& 1) 0 = 0 then 0 else 1
def fN_isKnown (_ : mI) (J : mJ) (j : Nat) (b : Int32) : Int32 := fLit (J j 0) b
def fS_countedFor (I : mI) (_ : mJ) (j : Nat) (x : Int32) : Int32 := if x = I j 4 then I j 5 else if x = I j 4 - 1 then I j 6 else 0
def fV_surrounds (I : mI) (_ : mJ) (j k : Nat) : Int32 := if fEp (I k 3) ≤ fEp (I j 3) then 0 else if fEp (I j 4) ≤ fEp (I k 4) then 0 else 1

def wp_F_isValidator (R : Int32 → mI → mJ → Prop) (I0 : mI) (J0 : mJ) (a1 : Int32) : Prop :=
  ((a1 < 0 → R 0 I0 J0) ∧ (¬ (a1 < 0) → (((I0 0 0) ≤ a1 → R 0 I0 J0) ∧ (¬ ((I0 0 0) ≤ a1) → R 1 I0 J0))))
theorem P_F_isValidator (I0 : mI) (J0 : mJ) (a1 : Int32)    (R : Int32 → mI → mJ → Prop)  (hR : R (fF_isValidator I0 J0 a1) I0 J0) : wp_F_isValidator R I0 J0 a1 := by
  unfold wp_F_isValidator
  unfold fF_isValidator fIn at hR
  (repeat' split at hR) <;> (repeat' (first | exact hR | apply And.intro | (intro hh; try contradiction)))
set_option maxHeartbeats 4000000 in
set_option maxRecDepth 100000 in
theorem C_F_isValidator (l : Launch) (D : va_G) (ca : Nat → Nat) (ad : Nat → Nat) (I0 : mI) (J0 : mJ) (a1 : Int32)   : Met l yF_isValidator wF_isValidator ({ frames := 0, cells := 0, slots := 0, locals := 0 } : Room) (va_Pc [.ref (ad 0), .int a1] (mPre D vwCl (xty ca) 459 ad (xmk ca ad) nL I0 J0)) (mQi D vwCl 459 ad (xmk ca ad) (fun r I' J' => r = fF_isValidator I0 J0 a1 ∧ I' = I0 ∧ J' = J0)) 0 0 (mA 459 ad) := by
  refine Met.ofW (cc := cF_isValidator) (maxL := 2) (ret := (some .boolean)) (by decide) rfl ?_
  intro p e s m args below meth c s₁ B hml hv
  obtain ⟨rfl, hP, hK, hD0, hN⟩ := hv
  have hx := B.exec
  have hb := B.bytes
  have hr := B.returns
  have htb : ∀ w ∈ wb, w.before _ s = true := fun w h => atoms_spec (ws := wF_isValidator) B.pre w (List.mem_cons_of_mem _ h)
  have hown : s.vm.findClass RF = some m.cls := findClass_of_methodNamed B.named
  have hlk := B.notSynchronized
  have hD := mw_Dm hD0
  have hS : va_S (mA 459 ad) s.heap s.heap [] := va_S.rf
  have hl := lv_entry ([.ref (ad 0), .int a1]) (n := 2) (Nat.le_of_ble_eq_true rfl)
  rw [lg_entry_eq]
  generalize (lg_sl ([.ref (ad 0), .int a1]) ++ List.replicate (2 - (lg_sl ([.ref (ad 0), .int a1])).length) Slot.unset).toArray = ls at hl ⊢
  have hl : lv_has ls 2 [(0, .ref (ad 0)), (1, .int a1)] := hl
  have h := P_F_isValidator I0 J0 a1    (fun r I' J' => r = fF_isValidator I0 J0 a1 ∧ I' = I0 ∧ J' = J0)  ⟨rfl, rfl, rfl⟩
  unfold wp_F_isValidator at h
  refine lv_iload_n hx hb dF_isValidator_0 rfl (lv_at hl 1 rfl) ?_
  refine lv_if_lt (tgt := 16) hx hb dF_isValidator_1 (by decide) (fun hc => ?_) (fun hc => ?_)
  · have h := h.1 hc
    refine lv_iconst (v := 0) hx hb dF_isValidator_16 (by decide) ?_
    exact me_z hx hb hr hlk hP hS rfl h dF_isValidator_17
  · have h := h.2 hc
    refine lv_iload_n hx hb dF_isValidator_4 rfl (lv_at hl 1 rfl) ?_
    refine lv_aload_n hx hb dF_isValidator_5 rfl (lv_at hl 0 rfl) ?_
    refine va_get (D := D) (ci := 5) (v := .int (I0 0 0)) (C := RF) (T := TF) (N := 11) hx hb htb inF hown hK hP 0 (mw_at (xk_lt (show xk 0 = 0 from rfl) (by decide)) (xm_F (show xk 0 = 0 from rfl) _ _)) rfl 0 (by decide) (htb _ k1_162) (fun _ h9 => h9) rfl dF_isValidator_6 ?_
    refine lv_icmp_ge (tgt := 16) hx hb dF_isValidator_9 (by decide) (fun hc => ?_) (fun hc => ?_)
    · have h := h.1 hc
      refine lv_iconst (v := 0) hx hb dF_isValidator_16 (by decide) ?_
      exact me_z hx hb hr hlk hP hS rfl h dF_isValidator_17
    · have h := h.2 hc
      refine lv_iconst (v := 1) hx hb dF_isValidator_12 (by decide) ?_
      refine lv_goto (tgt := 17) hx hb dF_isValidator_13 (by decide) ?_
      exact me_z hx hb hr hlk hP hS rfl h dF_isValidator_17
def wp_F_isBlock (R : Int32 → mI → mJ → Prop) (I0 : mI) (J0 : mJ) (a1 : Int32) : Prop :=
  ((a1 < 0 → R 0 I0 J0) ∧ (¬ (a1 < 0) → (((I0 0 5) ≤ a1 → R 0 I0 J0) ∧ (¬ ((I0 0 5) ≤ a1) → R 1 I0 J0))))
theorem P_F_isBlock (I0 : mI) (J0 : mJ) (a1 : Int32)    (R : Int32 → mI → mJ → Prop)  (hR : R (fF_isBlock I0 J0 a1) I0 J0) : wp_F_isBlock R I0 J0 a1 := by
  unfold wp_F_isBlock
  unfold fF_isBlock fIn at hR
  (repeat' split at hR) <;> (repeat' (first | exact hR | apply And.intro | (intro hh; try contradiction)))
set_option maxHeartbeats 4000000 in
set_option maxRecDepth 100000 in
theorem C_F_isBlock (l : Launch) (D : va_G) (ca : Nat → Nat) (ad : Nat → Nat) (I0 : mI) (J0 : mJ) (a1 : Int32)   : Met l yF_isBlock wF_isBlock ({ frames := 0, cells := 0, slots := 0, locals := 0 } : Room) (va_Pc [.ref (ad 0), .int a1] (mPre D vwCl (xty ca) 459 ad (xmk ca ad) nL I0 J0)) (mQi D vwCl 459 ad (xmk ca ad) (fun r I' J' => r = fF_isBlock I0 J0 a1 ∧ I' = I0 ∧ J' = J0)) 0 0 (mA 459 ad) := by
  refine Met.ofW (cc := cF_isBlock) (maxL := 2) (ret := (some .boolean)) (by decide) rfl ?_
  intro p e s m args below meth c s₁ B hml hv
  obtain ⟨rfl, hP, hK, hD0, hN⟩ := hv
  have hx := B.exec
  have hb := B.bytes
  have hr := B.returns
  have htb : ∀ w ∈ wb, w.before _ s = true := fun w h => atoms_spec (ws := wF_isBlock) B.pre w (List.mem_cons_of_mem _ h)
  have hown : s.vm.findClass RF = some m.cls := findClass_of_methodNamed B.named
  have hlk := B.notSynchronized
  have hD := mw_Dm hD0
  have hS : va_S (mA 459 ad) s.heap s.heap [] := va_S.rf
  have hl := lv_entry ([.ref (ad 0), .int a1]) (n := 2) (Nat.le_of_ble_eq_true rfl)
  rw [lg_entry_eq]
  generalize (lg_sl ([.ref (ad 0), .int a1]) ++ List.replicate (2 - (lg_sl ([.ref (ad 0), .int a1])).length) Slot.unset).toArray = ls at hl ⊢
  have hl : lv_has ls 2 [(0, .ref (ad 0)), (1, .int a1)] := hl
  have h := P_F_isBlock I0 J0 a1    (fun r I' J' => r = fF_isBlock I0 J0 a1 ∧ I' = I0 ∧ J' = J0)  ⟨rfl, rfl, rfl⟩
  unfold wp_F_isBlock at h
  refine lv_iload_n hx hb dF_isBlock_0 rfl (lv_at hl 1 rfl) ?_
  refine lv_if_lt (tgt := 16) hx hb dF_isBlock_1 (by decide) (fun hc => ?_) (fun hc => ?_)
  · have h := h.1 hc
    refine lv_iconst (v := 0) hx hb dF_isBlock_16 (by decide) ?_
    exact me_z hx hb hr hlk hP hS rfl h dF_isBlock_17
  · have h := h.2 hc
    refine lv_iload_n hx hb dF_isBlock_4 rfl (lv_at hl 1 rfl) ?_
    refine lv_aload_n hx hb dF_isBlock_5 rfl (lv_at hl 0 rfl) ?_
    refine va_get (D := D) (ci := 5) (v := .int (I0 0 5)) (C := RF) (T := TF) (N := 11) hx hb htb inF hown hK hP 0 (mw_at (xk_lt (show xk 0 = 0 from rfl) (by decide)) (xm_F (show xk 0 = 0 from rfl) _ _)) rfl 5 (by decide) (htb _ k1_167) (fun _ h9 => h9) rfl dF_isBlock_6 ?_
    refine lv_icmp_ge (tgt := 16) hx hb dF_isBlock_9 (by decide) (fun hc => ?_) (fun hc => ?_)
    · have h := h.1 hc
      refine lv_iconst (v := 0) hx hb dF_isBlock_16 (by decide) ?_
      exact me_z hx hb hr hlk hP hS rfl h dF_isBlock_17
    · have h := h.2 hc
      refine lv_iconst (v := 1) hx hb dF_isBlock_12 (by decide) ?_
      refine lv_goto (tgt := 17) hx hb dF_isBlock_13 (by decide) ?_
      exact me_z hx hb hr hlk hP hS rfl h dF_isBlock_17
def wp_F_isVote (R : Int32 → mI → mJ → Prop) (I0 : mI) (J0 : mJ) (a1 : Int32) : Prop :=
  ((a1 < 0 → R 0 I0 J0) ∧ (¬ (a1 < 0) → (((I0 0 7) ≤ a1 → R 0 I0 J0) ∧ (¬ ((I0 0 7) ≤ a1) → R 1 I0 J0))))
theorem P_F_isVote (I0 : mI) (J0 : mJ) (a1 : Int32)    (R : Int32 → mI → mJ → Prop)  (hR : R (fF_isVote I0 J0 a1) I0 J0) : wp_F_isVote R I0 J0 a1 := by
  unfold wp_F_isVote
  unfold fF_isVote fIn at hR
  (repeat' split at hR) <;> (repeat' (first | exact hR | apply And.intro | (intro hh; try contradiction)))
set_option maxHeartbeats 4000000 in
set_option maxRecDepth 100000 in
theorem C_F_isVote (l : Launch) (D : va_G) (ca : Nat → Nat) (ad : Nat → Nat) (I0 : mI) (J0 : mJ) (a1 : Int32)   : Met l yF_isVote wF_isVote ({ frames := 0, cells := 0, slots := 0, locals := 0 } : Room) (va_Pc [.ref (ad 0), .int a1] (mPre D vwCl (xty ca) 459 ad (xmk ca ad) nL I0 J0)) (mQi D vwCl 459 ad (xmk ca ad) (fun r I' J' => r = fF_isVote I0 J0 a1 ∧ I' = I0 ∧ J' = J0)) 0 0 (mA 459 ad) := by
  refine Met.ofW (cc := cF_isVote) (maxL := 2) (ret := (some .boolean)) (by decide) rfl ?_
  intro p e s m args below meth c s₁ B hml hv
  obtain ⟨rfl, hP, hK, hD0, hN⟩ := hv
  have hx := B.exec
  have hb := B.bytes
  have hr := B.returns
  have htb : ∀ w ∈ wb, w.before _ s = true := fun w h => atoms_spec (ws := wF_isVote) B.pre w (List.mem_cons_of_mem _ h)
  have hown : s.vm.findClass RF = some m.cls := findClass_of_methodNamed B.named
  have hlk := B.notSynchronized
  have hD := mw_Dm hD0
  have hS : va_S (mA 459 ad) s.heap s.heap [] := va_S.rf
  have hl := lv_entry ([.ref (ad 0), .int a1]) (n := 2) (Nat.le_of_ble_eq_true rfl)
  rw [lg_entry_eq]
  generalize (lg_sl ([.ref (ad 0), .int a1]) ++ List.replicate (2 - (lg_sl ([.ref (ad 0), .int a1])).length) Slot.unset).toArray = ls at hl ⊢
  have hl : lv_has ls 2 [(0, .ref (ad 0)), (1, .int a1)] := hl
  have h := P_F_isVote I0 J0 a1    (fun r I' J' => r = fF_isVote I0 J0 a1 ∧ I' = I0 ∧ J' = J0)  ⟨rfl, rfl, rfl⟩
  unfold wp_F_isVote at h
  refine lv_iload_n hx hb dF_isVote_0 rfl (lv_at hl 1 rfl) ?_
  refine lv_if_lt (tgt := 16) hx hb dF_isVote_1 (by decide) (fun hc => ?_) (fun hc => ?_)
  · have h := h.1 hc
    refine lv_iconst (v := 0) hx hb dF_isVote_16 (by decide) ?_
    exact me_z hx hb hr hlk hP hS rfl h dF_isVote_17
  · have h := h.2 hc
    refine lv_iload_n hx hb dF_isVote_4 rfl (lv_at hl 1 rfl) ?_
    refine lv_aload_n hx hb dF_isVote_5 rfl (lv_at hl 0 rfl) ?_
    refine va_get (D := D) (ci := 5) (v := .int (I0 0 7)) (C := RF) (T := TF) (N := 11) hx hb htb inF hown hK hP 0 (mw_at (xk_lt (show xk 0 = 0 from rfl) (by decide)) (xm_F (show xk 0 = 0 from rfl) _ _)) rfl 7 (by decide) (htb _ k1_169) (fun _ h9 => h9) rfl dF_isVote_6 ?_
    refine lv_icmp_ge (tgt := 16) hx hb dF_isVote_9 (by decide) (fun hc => ?_) (fun hc => ?_)
    · have h := h.1 hc
      refine lv_iconst (v := 0) hx hb dF_isVote_16 (by decide) ?_
      exact me_z hx hb hr hlk hP hS rfl h dF_isVote_17
    · have h := h.2 hc
      refine lv_iconst (v := 1) hx hb dF_isVote_12 (by decide) ?_
      refine lv_goto (tgt := 17) hx hb dF_isVote_13 (by decide) ?_
      exact me_z hx hb hr hlk hP hS rfl h dF_isVote_17
def wp_F_isNode (R : Int32 → mI → mJ → Prop) (I0 : mI) (J0 : mJ) (a0 : Int32) : Prop :=
  ((a0 < 0 → R 0 I0 J0) ∧ (¬ (a0 < 0) → ((3 ≤ a0 → R 0 I0 J0) ∧ (¬ (3 ≤ a0) → R 1 I0 J0))))
theorem P_F_isNode (I0 : mI) (J0 : mJ) (a0 : Int32)    (R : Int32 → mI → mJ → Prop)  (hR : R (fF_isNode I0 J0 a0) I0 J0) : wp_F_isNode R I0 J0 a0 := by
  unfold wp_F_isNode
  unfold fF_isNode fIn at hR
  (repeat' split at hR) <;> (repeat' (first | exact hR | apply And.intro | (intro hh; try contradiction)))
set_option maxHeartbeats 4000000 in
set_option maxRecDepth 100000 in
theorem C_F_isNode (l : Launch) (D : va_G) (ca : Nat → Nat) (ad : Nat → Nat) (I0 : mI) (J0 : mJ) (a0 : Int32)   : Met l yF_isNode wF_isNode ({ frames := 0, cells := 0, slots := 0, locals := 0 } : Room) (va_Pc [.int a0] (mPre D vwCl (xty ca) 459 ad (xmk ca ad) nL I0 J0)) (mQi D vwCl 459 ad (xmk ca ad) (fun r I' J' => r = fF_isNode I0 J0 a0 ∧ I' = I0 ∧ J' = J0)) 0 0 (mA 459 ad) := by
  refine Met.ofW (cc := cF_isNode) (maxL := 1) (ret := (some .boolean)) (by decide) rfl ?_
  intro p e s m args below meth c s₁ B hml hv
  obtain ⟨rfl, hP, hK, hD0, hN⟩ := hv
  have hx := B.exec
  have hb := B.bytes
  have hr := B.returns
  have htb : ∀ w ∈ wb, w.before _ s = true := fun w h => atoms_spec (ws := wF_isNode) B.pre w (List.mem_cons_of_mem _ h)
  have hown : s.vm.findClass RF = some m.cls := findClass_of_methodNamed B.named
  have hlk := B.notSynchronized
  have hD := mw_Dm hD0
  have hS : va_S (mA 459 ad) s.heap s.heap [] := va_S.rf
  have hl := lv_entry ([.int a0]) (n := 1) (Nat.le_of_ble_eq_true rfl)
  rw [lg_entry_eq]
  generalize (lg_sl ([.int a0]) ++ List.replicate (1 - (lg_sl ([.int a0])).length) Slot.unset).toArray = ls at hl ⊢
  have hl : lv_has ls 1 [(0, .int a0)] := hl
  have h := P_F_isNode I0 J0 a0    (fun r I' J' => r = fF_isNode I0 J0 a0 ∧ I' = I0 ∧ J' = J0)  ⟨rfl, rfl, rfl⟩
  unfold wp_F_isNode at h
  refine lv_iload_n hx hb dF_isNode_0 rfl (lv_at hl 0 rfl) ?_
  refine lv_if_lt (tgt := 13) hx hb dF_isNode_1 (by decide) (fun hc => ?_) (fun hc => ?_)
  · have h := h.1 hc
    refine lv_iconst (v := 0) hx hb dF_isNode_13 (by decide) ?_
    exact me_z hx hb hr hlk hP hS rfl h dF_isNode_14
  · have h := h.2 hc
    refine lv_iload_n hx hb dF_isNode_4 rfl (lv_at hl 0 rfl) ?_
    refine lv_iconst (v := 3) hx hb dF_isNode_5 (by decide) ?_
    refine lv_icmp_ge (tgt := 13) hx hb dF_isNode_6 (by decide) (fun hc => ?_) (fun hc => ?_)
    · have h := h.1 hc
      refine lv_iconst (v := 0) hx hb dF_isNode_13 (by decide) ?_
      exact me_z hx hb hr hlk hP hS rfl h dF_isNode_14
    · have h := h.2 hc
      refine lv_iconst (v := 1) hx hb dF_isNode_9 (by decide) ?_
      refine lv_goto (tgt := 14) hx hb dF_isNode_10 (by decide) ?_
      exact me_z hx hb hr hlk hP hS rfl h dF_isNode_14
def wp_F_isIn (R : Int32 → mI → mJ → Prop) (I0 : mI) (J0 : mJ) (a0 : Int32) (a1 : Int32) : Prop :=
  ((((a0 >>> (a1 &&& 31)) &&& 1) = 0 → R 0 I0 J0) ∧ (¬ (((a0 >>> (a1 &&& 31)) &&& 1) = 0) → R 1 I0 J0))
theorem P_F_isIn (I0 : mI) (J0 : mJ) (a0 : Int32) (a1 : Int32)    (R : Int32 → mI → mJ → Prop)  (hR : R (fF_isIn I0 J0 a0 a1) I0 J0) : wp_F_isIn R I0 J0 a0 a1 := by
  unfold wp_F_isIn
  unfold fF_isIn fBit at hR
  (repeat' split at hR) <;> (repeat' (first | exact hR | apply And.intro | (intro hh; try contradiction)))
set_option maxHeartbeats 4000000 in
set_option maxRecDepth 100000 in
theorem C_F_isIn (l : Launch) (D : va_G) (ca : Nat → Nat) (ad : Nat → Nat) (I0 : mI) (J0 : mJ) (a0 : Int32) (a1 : Int32)   : Met l yF_isIn wF_isIn ({ frames := 0, cells := 0, slots := 0, locals := 0 } : Room) (va_Pc [.int a0, .int a1] (mPre D vwCl (xty ca) 459 ad (xmk ca ad) nL I0 J0)) (mQi D vwCl 459 ad (xmk ca ad) (fun r I' J' => r = fF_isIn I0 J0 a0 a1 ∧ I' = I0 ∧ J' = J0)) 0 0 (mA 459 ad) := by
  refine Met.ofW (cc := cF_isIn) (maxL := 2) (ret := (some .boolean)) (by decide) rfl ?_
  intro p e s m args below meth c s₁ B hml hv
  obtain ⟨rfl, hP, hK, hD0, hN⟩ := hv
  have hx := B.exec
  have hb := B.bytes
  have hr := B.returns
  have htb : ∀ w ∈ wb, w.before _ s = true := fun w h => atoms_spec (ws := wF_isIn) B.pre w (List.mem_cons_of_mem _ h)
  have hown : s.vm.findClass RF = some m.cls := findClass_of_methodNamed B.named
  have hlk := B.notSynchronized
  have hD := mw_Dm hD0
  have hS : va_S (mA 459 ad) s.heap s.heap [] := va_S.rf
  have hl := lv_entry ([.int a0, .int a1]) (n := 2) (Nat.le_of_ble_eq_true rfl)
  rw [lg_entry_eq]
  generalize (lg_sl ([.int a0, .int a1]) ++ List.replicate (2 - (lg_sl ([.int a0, .int a1])).length) Slot.unset).toArray = ls at hl ⊢
  have hl : lv_has ls 2 [(0, .int a0), (1, .int a1)] := hl
  have h := P_F_isIn I0 J0 a0 a1    (fun r I' J' => r = fF_isIn I0 J0 a0 a1 ∧ I' = I0 ∧ J' = J0)  ⟨rfl, rfl, rfl⟩
  unfold wp_F_isIn at h
  refine lv_iload_n hx hb dF_isIn_0 rfl (lv_at hl 0 rfl) ?_
  refine lv_iload_n hx hb dF_isIn_1 rfl (lv_at hl 1 rfl) ?_
  refine lv_ishr hx hb dF_isIn_2 ?_
  refine lv_iconst (v := 1) hx hb dF_isIn_3 (by decide) ?_
  refine lv_iand hx hb dF_isIn_4 ?_
  refine lv_if_eq (tgt := 12) hx hb dF_isIn_5 (by decide) (fun hc => ?_) (fun hc => ?_)
  · have h := h.1 hc
    refine lv_iconst (v := 0) hx hb dF_isIn_12 (by decide) ?_
    exact me_z hx hb hr hlk hP hS rfl h dF_isIn_13
  · have h := h.2 hc
    refine lv_iconst (v := 1) hx hb dF_isIn_8 (by decide) ?_
    refine lv_goto (tgt := 13) hx hb dF_isIn_9 (by decide) ?_
    exact me_z hx hb hr hlk hP hS rfl h dF_isIn_13
def wp_F_checkpointOf (R : Int32 → mI → mJ → Prop) (I0 : mI) (J0 : mJ) (a0 : Int32) (a1 : Int32) : Prop :=
  R ((a0 <<< ((6 : Int32) &&& 31)) ||| a1) I0 J0
theorem P_F_checkpointOf (I0 : mI) (J0 : mJ) (a0 : Int32) (a1 : Int32)    (R : Int32 → mI → mJ → Prop)  (hR : R (fF_checkpointOf I0 J0 a0 a1) I0 J0) : wp_F_checkpointOf R I0 J0 a0 a1 := by
  unfold wp_F_checkpointOf
  unfold fF_checkpointOf at hR
  (repeat' split at hR) <;> (repeat' (first | exact hR | apply And.intro | (intro hh; try contradiction)))
set_option maxHeartbeats 4000000 in
set_option maxRecDepth 100000 in
theorem C_F_checkpointOf (l : Launch) (D : va_G) (ca : Nat → Nat) (ad : Nat → Nat) (I0 : mI) (J0 : mJ) (a0 : Int32) (a1 : Int32)   : Met l yF_checkpointOf wF_checkpointOf ({ frames := 0, cells := 0, slots := 0, locals := 0 } : Room) (va_Pc [.int a0, .int a1] (mPre D vwCl (xty ca) 459 ad (xmk ca ad) nL I0 J0)) (mQi D vwCl 459 ad (xmk ca ad) (fun r I' J' => r = fF_checkpointOf I0 J0 a0 a1 ∧ I' = I0 ∧ J' = J0)) 0 0 (mA 459 ad) := by
  refine Met.ofW (cc := cF_checkpointOf) (maxL := 2) (ret := (some .int)) (by decide) rfl ?_
  intro p e s m args below meth c s₁ B hml hv
  obtain ⟨rfl, hP, hK, hD0, hN⟩ := hv
  have hx := B.exec
  have hb := B.bytes
  have hr := B.returns
  have htb : ∀ w ∈ wb, w.before _ s = true := fun w h => atoms_spec (ws := wF_checkpointOf) B.pre w (List.mem_cons_of_mem _ h)
  have hown : s.vm.findClass RF = some m.cls := findClass_of_methodNamed B.named
  have hlk := B.notSynchronized
  have hD := mw_Dm hD0
  have hS : va_S (mA 459 ad) s.heap s.heap [] := va_S.rf
  have hl := lv_entry ([.int a0, .int a1]) (n := 2) (Nat.le_of_ble_eq_true rfl)
  rw [lg_entry_eq]
  generalize (lg_sl ([.int a0, .int a1]) ++ List.replicate (2 - (lg_sl ([.int a0, .int a1])).length) Slot.unset).toArray = ls at hl ⊢
  have hl : lv_has ls 2 [(0, .int a0), (1, .int a1)] := hl
  have h := P_F_checkpointOf I0 J0 a0 a1    (fun r I' J' => r = fF_checkpointOf I0 J0 a0 a1 ∧ I' = I0 ∧ J' = J0)  ⟨rfl, rfl, rfl⟩
  unfold wp_F_checkpointOf at h
  refine lv_iload_n hx hb dF_checkpointOf_0 rfl (lv_at hl 0 rfl) ?_
  refine lv_bipush (v := 6) hx hb dF_checkpointOf_1 (by decide) ?_
  refine lv_ishl hx hb dF_checkpointOf_3 ?_
  refine lv_iload_n hx hb dF_checkpointOf_4 rfl (lv_at hl 1 rfl) ?_
  refine lv_ior hx hb dF_checkpointOf_5 ?_
  exact me_i hx hb hr hlk hP hS h dF_checkpointOf_6
def wp_F_epochOf (R : Int32 → mI → mJ → Prop) (I0 : mI) (J0 : mJ) (a0 : Int32) : Prop :=
  R (a0 >>> ((6 : Int32) &&& 31)) I0 J0
theorem P_F_epochOf (I0 : mI) (J0 : mJ) (a0 : Int32)    (R : Int32 → mI → mJ → Prop)  (hR : R (fF_epochOf I0 J0 a0) I0 J0) : wp_F_epochOf R I0 J0 a0 := by
  unfold wp_F_epochOf
  unfold fF_epochOf fEp at hR
  (repeat' split at hR) <;> (repeat' (first | exact hR | apply And.intro | (intro hh; try contradiction)))
set_option maxHeartbeats 4000000 in
set_option maxRecDepth 100000 in
theorem C_F_epochOf (l : Launch) (D : va_G) (ca : Nat → Nat) (ad : Nat → Nat) (I0 : mI) (J0 : mJ) (a0 : Int32)   : Met l yF_epochOf wF_epochOf ({ frames := 0, cells := 0, slots := 0, locals := 0 } : Room) (va_Pc [.int a0] (mPre D vwCl (xty ca) 459 ad (xmk ca ad) nL I0 J0)) (mQi D vwCl 459 ad (xmk ca ad) (fun r I' J' => r = fF_epochOf I0 J0 a0 ∧ I' = I0 ∧ J' = J0)) 0 0 (mA 459 ad) := by
  refine Met.ofW (cc := cF_epochOf) (maxL := 1) (ret := (some .int)) (by decide) rfl ?_
  intro p e s m args below meth c s₁ B hml hv
  obtain ⟨rfl, hP, hK, hD0, hN⟩ := hv
  have hx := B.exec
  have hb := B.bytes
  have hr := B.returns
  have htb : ∀ w ∈ wb, w.before _ s = true := fun w h => atoms_spec (ws := wF_epochOf) B.pre w (List.mem_cons_of_mem _ h)
  have hown : s.vm.findClass RF = some m.cls := findClass_of_methodNamed B.named
  have hlk := B.notSynchronized
  have hD := mw_Dm hD0
  have hS : va_S (mA 459 ad) s.heap s.heap [] := va_S.rf
  have hl := lv_entry ([.int a0]) (n := 1) (Nat.le_of_ble_eq_true rfl)
  rw [lg_entry_eq]
  generalize (lg_sl ([.int a0]) ++ List.replicate (1 - (lg_sl ([.int a0])).length) Slot.unset).toArray = ls at hl ⊢
  have hl : lv_has ls 1 [(0, .int a0)] := hl
  have h := P_F_epochOf I0 J0 a0    (fun r I' J' => r = fF_epochOf I0 J0 a0 ∧ I' = I0 ∧ J' = J0)  ⟨rfl, rfl, rfl⟩
  unfold wp_F_epochOf at h
  refine lv_iload_n hx hb dF_epochOf_0 rfl (lv_at hl 0 rfl) ?_
  refine lv_bipush (v := 6) hx hb dF_epochOf_1 (by decide) ?_
  refine lv_ishr hx hb dF_epochOf_3 ?_
  exact me_i hx hb hr hlk hP hS h dF_epochOf_4
def wp_F_blockOf (R : Int32 → mI → mJ → Prop) (I0 : mI) (J0 : mJ) (a0 : Int32) : Prop :=
  R (a0 &&& 63) I0 J0
theorem P_F_blockOf (I0 : mI) (J0 : mJ) (a0 : Int32)    (R : Int32 → mI → mJ → Prop)  (hR : R (fF_blockOf I0 J0 a0) I0 J0) : wp_F_blockOf R I0 J0 a0 := by
  unfold wp_F_blockOf
  unfold fF_blockOf at hR
  (repeat' split at hR) <;> (repeat' (first | exact hR | apply And.intro | (intro hh; try contradiction)))
set_option maxHeartbeats 4000000 in
set_option maxRecDepth 100000 in
theorem C_F_blockOf (l : Launch) (D : va_G) (ca : Nat → Nat) (ad : Nat → Nat) (I0 : mI) (J0 : mJ) (a0 : Int32)   : Met l yF_blockOf wF_blockOf ({ frames := 0, cells := 0, slots := 0, locals := 0 } : Room) (va_Pc [.int a0] (mPre D vwCl (xty ca) 459 ad (xmk ca ad) nL I0 J0)) (mQi D vwCl 459 ad (xmk ca ad) (fun r I' J' => r = fF_blockOf I0 J0 a0 ∧ I' = I0 ∧ J' = J0)) 0 0 (mA 459 ad) := by
  refine Met.ofW (cc := cF_blockOf) (maxL := 1) (ret := (some .int)) (by decide) rfl ?_
  intro p e s m args below meth c s₁ B hml hv
  obtain ⟨rfl, hP, hK, hD0, hN⟩ := hv
  have hx := B.exec
  have hb := B.bytes
  have hr := B.returns
  have htb : ∀ w ∈ wb, w.before _ s = true := fun w h => atoms_spec (ws := wF_blockOf) B.pre w (List.mem_cons_of_mem _ h)
  have hown : s.vm.findClass RF = some m.cls := findClass_of_methodNamed B.named
  have hlk := B.notSynchronized
  have hD := mw_Dm hD0
  have hS : va_S (mA 459 ad) s.heap s.heap [] := va_S.rf
  have hl := lv_entry ([.int a0]) (n := 1) (Nat.le_of_ble_eq_true rfl)
  rw [lg_entry_eq]
  generalize (lg_sl ([.int a0]) ++ List.replicate (1 - (lg_sl ([.int a0])).length) Slot.unset).toArray = ls at hl ⊢
  have hl : lv_has ls 1 [(0, .int a0)] := hl
  have h := P_F_blockOf I0 J0 a0    (fun r I' J' => r = fF_blockOf I0 J0 a0 ∧ I' = I0 ∧ J' = J0)  ⟨rfl, rfl, rfl⟩
  unfold wp_F_blockOf at h
  refine lv_iload_n hx hb dF_blockOf_0 rfl (lv_at hl 0 rfl) ?_
  refine lv_bipush (v := 63) hx hb dF_blockOf_1 (by decide) ?_
  refine lv_iand hx hb dF_blockOf_3 ?_
  exact me_i hx hb hr hlk hP hS h dF_blockOf_4
def wp_N_isKnown (R : Int32 → mI → mJ → Prop) (I0 : mI) (J0 : mJ) (jT : Nat) (a1 : Int32) : Prop :=
  (((lg_cmp (((J0 jT 0) >>> (a1.toInt64 &&& 63)) &&& 1) 0) = 0 → R 0 I0 J0) ∧ (¬ ((lg_cmp (((J0 jT 0) >>> (a1.toInt64 &&& 63)) &&& 1) 0) = 0) → R 1 I0 J0))
theorem P_N_isKnown (I0 : mI) (J0 : mJ) (jT : Nat) (a1 : Int32) (hkT : xk jT = 10)   (R : Int32 → mI → mJ → Prop)  (hR : R (fN_isKnown I0 J0 jT a1) I0 J0) : wp_N_isKnown R I0 J0 jT a1 := by
  unfold wp_N_isKnown
  unfold fN_isKnown fLit at hR
  (repeat' split at hR) <;> (repeat' (first | exact hR | apply And.intro | (intro hh; try contradiction)))
set_option maxHeartbeats 4000000 in
set_option maxRecDepth 100000 in
theorem C_N_isKnown (l : Launch) (D : va_G) (ca : Nat → Nat) (ad : Nat → Nat) (I0 : mI) (J0 : mJ) (jT : Nat) (a1 : Int32) (hkT : xk jT = 10)  : Met l yN_isKnown wN_isKnown ({ frames := 0, cells := 0, slots := 0, locals := 0 } : Room) (va_Pc [.ref (ad jT), .int a1] (mPre D vwCl (xty ca) 459 ad (xmk ca ad) nL I0 J0)) (mQi D vwCl 459 ad (xmk ca ad) (fun r I' J' => r = fN_isKnown I0 J0 jT a1 ∧ I' = I0 ∧ J' = J0)) 0 0 (mA 459 ad) := by
  refine Met.ofW (cc := cN_isKnown) (maxL := 2) (ret := (some .boolean)) (by decide) rfl ?_
  intro p e s m args below meth c s₁ B hml hv
  obtain ⟨rfl, hP, hK, hD0, hN⟩ := hv
  have hx := B.exec
  have hb := B.bytes
  have hr := B.returns
  have htb : ∀ w ∈ wb, w.before _ s = true := fun w h => atoms_spec (ws := wN_isKnown) B.pre w (List.mem_cons_of_mem _ h)
  have hown : s.vm.findClass RN = some m.cls := findClass_of_methodNamed B.named
  have hlk := B.notSynchronized
  have hD := mw_Dm hD0
  have hS : va_S (mA 459 ad) s.heap s.heap [] := va_S.rf
  have hl := lv_entry ([.ref (ad jT), .int a1]) (n := 2) (Nat.le_of_ble_eq_true rfl)
  rw [lg_entry_eq]
  generalize (lg_sl ([.ref (ad jT), .int a1]) ++ List.replicate (2 - (lg_sl ([.ref (ad jT), .int a1])).length) Slot.unset).toArray = ls at hl ⊢
  have hl : lv_has ls 2 [(0, .ref (ad jT)), (1, .int a1)] := hl
  have h := P_N_isKnown I0 J0 jT a1 hkT   (fun r I' J' => r = fN_isKnown I0 J0 jT a1 ∧ I' = I0 ∧ J' = J0)  ⟨rfl, rfl, rfl⟩
  unfold wp_N_isKnown at h
  refine lv_aload_n hx hb dN_isKnown_0 rfl (lv_at hl 0 rfl) ?_
  refine va_get (D := D) (ci := 2) (v := .long (J0 jT 0)) (C := RN) (T := TN) (N := 5) hx hb htb inN hown hK hP jT (mw_at (xk_lt hkT (by decide)) (xm_N hkT _ _)) rfl 0 (by decide) (htb _ k1_138) (fun _ h9 => h9) rfl dN_isKnown_1 ?_
  refine lv_iload_n hx hb dN_isKnown_4 rfl (lv_at hl 1 rfl) ?_
  refine lv_lshr (v := (J0 jT 0) >>> (a1.toInt64 &&& 63)) hx hb dN_isKnown_5 rfl ?_
  refine lv_lconst (v := 1) hx hb dN_isKnown_6 (by decide) ?_
  refine lv_land hx hb dN_isKnown_7 ?_
  refine lv_lconst (v := 0) hx hb dN_isKnown_8 (by decide) ?_
  refine W.lcmp hx hb dN_isKnown_9 ?_
  refine lv_if_eq (tgt := 17) hx hb dN_isKnown_10 (by decide) (fun hc => ?_) (fun hc => ?_)
  · have h := h.1 hc
    refine lv_iconst (v := 0) hx hb dN_isKnown_17 (by decide) ?_
    exact me_z hx hb hr hlk hP hS rfl h dN_isKnown_18
  · have h := h.2 hc
    refine lv_iconst (v := 1) hx hb dN_isKnown_13 (by decide) ?_
    refine lv_goto (tgt := 18) hx hb dN_isKnown_14 (by decide) ?_
    exact me_z hx hb hr hlk hP hS rfl h dN_isKnown_18
def wp_S_countedFor (R : Int32 → mI → mJ → Prop) (I0 : mI) (J0 : mJ) (jT : Nat) (a1 : Int32) : Prop :=
  ((¬ (a1 = (I0 jT 4)) → ((¬ (a1 = ((I0 jT 4) - 1)) → R 0 I0 J0) ∧ (a1 = ((I0 jT 4) - 1) → R (I0 jT 6) I0 J0))) ∧ (a1 = (I0 jT 4) → R (I0 jT 5) I0 J0))
theorem P_S_countedFor (I0 : mI) (J0 : mJ) (jT : Nat) (a1 : Int32) (hkT : xk jT = 6)   (R : Int32 → mI → mJ → Prop)  (hR : R (fS_countedFor I0 J0 jT a1) I0 J0) : wp_S_countedFor R I0 J0 jT a1 := by
  unfold wp_S_countedFor
  unfold fS_countedFor at hR
  (repeat' split at hR) <;> (repeat' (first | exact hR | apply And.intro | (intro hh; try contradiction)))
set_option maxHeartbeats 4000000 in
set_option maxRecDepth 100000 in
theorem C_S_countedFor (l : Launch) (D : va_G) (ca : Nat → Nat) (ad : Nat → Nat) (I0 : mI) (J0 : mJ) (jT : Nat) (a1 : Int32) (hkT : xk jT = 6)  : Met l yS_countedFor wS_countedFor ({ frames := 0, cells := 0, slots := 0, locals := 0 } : Room) (va_Pc [.ref (ad jT), .int a1] (mPre D vwCl (xty ca) 459 ad (xmk ca ad) nL I0 J0)) (mQi D vwCl 459 ad (xmk ca ad) (fun r I' J' => r = fS_countedFor I0 J0 jT a1 ∧ I' = I0 ∧ J' = J0)) 0 0 (mA 459 ad) := by
  refine Met.ofW (cc := cS_countedFor) (maxL := 2) (ret := (some .int)) (by decide) rfl ?_
  intro p e s m args below meth c s₁ B hml hv
  obtain ⟨rfl, hP, hK, hD0, hN⟩ := hv
  have hx := B.exec
  have hb := B.bytes
  have hr := B.returns
  have htb : ∀ w ∈ wb, w.before _ s = true := fun w h => atoms_spec (ws := wS_countedFor) B.pre w (List.mem_cons_of_mem _ h)
  have hown : s.vm.findClass RS = some m.cls := findClass_of_methodNamed B.named
  have hlk := B.notSynchronized
  have hD := mw_Dm hD0
  have hS : va_S (mA 459 ad) s.heap s.heap [] := va_S.rf
  have hl := lv_entry ([.ref (ad jT), .int a1]) (n := 2) (Nat.le_of_ble_eq_true rfl)
  rw [lg_entry_eq]
  generalize (lg_sl ([.ref (ad jT), .int a1]) ++ List.replicate (2 - (lg_sl ([.ref (ad jT), .int a1])).length) Slot.unset).toArray = ls at hl ⊢
  have hl : lv_has ls 2 [(0, .ref (ad jT)), (1, .int a1)] := hl
  have h := P_S_countedFor I0 J0 jT a1 hkT   (fun r I' J' => r = fS_countedFor I0 J0 jT a1 ∧ I' = I0 ∧ J' = J0)  ⟨rfl, rfl, rfl⟩
  unfold wp_S_countedFor at h
  refine lv_iload_n hx hb dS_countedFor_0 rfl (lv_at hl 1 rfl) ?_
  refine lv_aload_n hx hb dS_countedFor_1 rfl (lv_at hl 0 rfl) ?_
  refine va_get (D := D) (ci := 3) (v := .int (I0 jT 4)) (C := RS) (T := TS) (N := 7) hx hb htb inS hown hK hP jT (mw_at (xk_lt hkT (by decide)) (xm_S hkT _ _)) rfl 4 (by decide) (htb _ k1_65) (fun _ h9 => h9) rfl dS_countedFor_2 ?_
  refine lv_icmp_ne (tgt := 13) hx hb dS_countedFor_5 (by decide) (fun hc => ?_) (fun hc => ?_)
  · have h := h.1 hc
    refine lv_iload_n hx hb dS_countedFor_13 rfl (lv_at hl 1 rfl) ?_
    refine lv_aload_n hx hb dS_countedFor_14 rfl (lv_at hl 0 rfl) ?_
    refine va_get (D := D) (ci := 3) (v := .int (I0 jT 4)) (C := RS) (T := TS) (N := 7) hx hb htb inS hown hK hP jT (mw_at (xk_lt hkT (by decide)) (xm_S hkT _ _)) rfl 4 (by decide) (htb _ k1_65) (fun _ h9 => h9) rfl dS_countedFor_15 ?_
    refine lv_iconst (v := 1) hx hb dS_countedFor_18 (by decide) ?_
    refine lv_isub hx hb dS_countedFor_19 ?_
    refine lv_icmp_ne (tgt := 30) hx hb dS_countedFor_20 (by decide) (fun hc => ?_) (fun hc => ?_)
    · have h := h.1 hc
      refine lv_iconst (v := 0) hx hb dS_countedFor_30 (by decide) ?_
      exact me_i hx hb hr hlk hP hS h dS_countedFor_31
    · have h := h.2 hc
      refine lv_aload_n hx hb dS_countedFor_23 rfl (lv_at hl 0 rfl) ?_
      refine va_get (D := D) (ci := 3) (v := .int (I0 jT 6)) (C := RS) (T := TS) (N := 7) hx hb htb inS hown hK hP jT (mw_at (xk_lt hkT (by decide)) (xm_S hkT _ _)) rfl 6 (by decide) (htb _ k1_67) (fun _ h9 => h9) rfl dS_countedFor_24 ?_
      refine lv_goto (tgt := 31) hx hb dS_countedFor_27 (by decide) ?_
      exact me_i hx hb hr hlk hP hS h dS_countedFor_31
  · have h := h.2 hc
    refine lv_aload_n hx hb dS_countedFor_8 rfl (lv_at hl 0 rfl) ?_
    refine va_get (D := D) (ci := 3) (v := .int (I0 jT 5)) (C := RS) (T := TS) (N := 7) hx hb htb inS hown hK hP jT (mw_at (xk_lt hkT (by decide)) (xm_S hkT _ _)) rfl 5 (by decide) (htb _ k1_66) (fun _ h9 => h9) rfl dS_countedFor_9 ?_
    exact me_i hx hb hr hlk hP hS h dS_countedFor_12
def wp_V_surrounds (R : Int32 → mI → mJ → Prop) (I0 : mI) (J0 : mJ) (jT : Nat) (j1 : Nat) : Prop :=
  (((fF_epochOf I0 J0 (I0 j1 3)) ≤ (fF_epochOf I0 J0 (I0 jT 3)) → R 0 I0 J0) ∧ (¬ ((fF_epochOf I0 J0 (I0 j1 3)) ≤ (fF_epochOf I0 J0 (I0 jT 3))) → (((fF_epochOf I0 J0 (I0 jT 4)) ≤ (fF_epochOf I0 J0 (I0 j1 4)) → R 0 I0 J0) ∧ (¬ ((fF_epochOf I0 J0 (I0 jT 4)) ≤ (fF_epochOf I0 J0 (I0 j1 4))) → R 1 I0 J0))))
theorem P_V_surrounds (I0 : mI) (J0 : mJ) (jT : Nat) (j1 : Nat) (hkT : xk jT = 8) (hk1 : xk j1 = 8)   (R : Int32 → mI → mJ → Prop)  (hR : R (fV_surrounds I0 J0 jT j1) I0 J0) : wp_V_surrounds R I0 J0 jT j1 := by
  unfold wp_V_surrounds fF_epochOf
  unfold fV_surrounds at hR
  (repeat' split at hR) <;> (repeat' (first | exact hR | apply And.intro | (intro hh; try contradiction)))
set_option maxHeartbeats 4000000 in
set_option maxRecDepth 100000 in
theorem C_V_surrounds (l : Launch) (D : va_G) (ca : Nat → Nat) (ad : Nat → Nat) (I0 : mI) (J0 : mJ) (jT : Nat) (j1 : Nat) (hkT : xk jT = 8) (hk1 : xk j1 = 8)  : Met l yV_surrounds wV_surrounds ({ frames := 1, cells := 0, slots := 0, locals := 20 } : Room) (va_Pc [.ref (ad jT), .ref (ad j1)] (mPre D vwCl (xty ca) 459 ad (xmk ca ad) nL I0 J0)) (mQi D vwCl 459 ad (xmk ca ad) (fun r I' J' => r = fV_surrounds I0 J0 jT j1 ∧ I' = I0 ∧ J' = J0)) 0 0 (mA 459 ad) := by
  refine Met.ofW (cc := cV_surrounds) (maxL := 2) (ret := (some .boolean)) (by decide) rfl ?_
  intro p e s m args below meth c s₁ B hml hv
  obtain ⟨rfl, hP, hK, hD0, hN⟩ := hv
  have hx := B.exec
  have hb := B.bytes
  have hr := B.returns
  have htb : ∀ w ∈ wb, w.before _ s = true := fun w h => atoms_spec (ws := wV_surrounds) B.pre w (List.mem_cons_of_mem _ h)
  have hown : s.vm.findClass RV = some m.cls := findClass_of_methodNamed B.named
  have hlk := B.notSynchronized
  have hD := mw_Dm hD0
  have hS : va_S (mA 459 ad) s.heap s.heap [] := va_S.rf
  have hl := lv_entry ([.ref (ad jT), .ref (ad j1)]) (n := 2) (Nat.le_of_ble_eq_true rfl)
  rw [lg_entry_eq]
  generalize (lg_sl ([.ref (ad jT), .ref (ad j1)]) ++ List.replicate (2 - (lg_sl ([.ref (ad jT), .ref (ad j1)])).length) Slot.unset).toArray = ls at hl ⊢
  have hl : lv_has ls 2 [(0, .ref (ad jT)), (1, .ref (ad j1))] := hl
  have h := P_V_surrounds I0 J0 jT j1 hkT hk1   (fun r I' J' => r = fV_surrounds I0 J0 jT j1 ∧ I' = I0 ∧ J' = J0)  ⟨rfl, rfl, rfl⟩
  unfold wp_V_surrounds at h
  refine lv_aload_n hx hb dV_surrounds_0 rfl (lv_at hl 0 rfl) ?_
  refine va_get (D := D) (ci := 4) (v := .int (I0 jT 3)) (C := RV) (T := TV) (N := 5) hx hb htb inV hown hK hP jT (mw_at (xk_lt hkT (by decide)) (xm_V hkT _ _)) rfl 3 (by decide) (htb _ k1_116) (fun _ h9 => h9) rfl dV_surrounds_1 ?_
  refine mc_r (va_runSN (As := [.int (I0 jT 3)]) (rest := []) ⟨hx, hb, hml, hown, htb⟩ (C_F_epochOf l D ca ad I0 J0 (I0 jT 3)) ⟨va_cnB 1 htb (gd_c k1_221) rfl rfl rfl (nl_4 hN) (htb _ k1_1) (by decide +kernel) ⟨Nat.le_of_ble_eq_true rfl, Nat.le_of_ble_eq_true rfl⟩, htb _ k1_220, trivial⟩ (mPre_S hK hP hD hN) rfl rfl hl.1 rfl (lv_room (Nat.le_of_ble_eq_true rfl)) dV_surrounds_4 ⟨Nat.le_of_ble_eq_true rfl, Nat.le_of_ble_eq_true rfl⟩) hS (fun H locs hP hS => ?_)
  refine lv_aload_n hx hb dV_surrounds_7 rfl (lv_at hl 1 rfl) ?_
  refine va_get (D := D) (ci := 4) (v := .int (I0 j1 3)) (C := RV) (T := TV) (N := 5) hx hb htb inV hown hK hP j1 (mw_at (xk_lt hk1 (by decide)) (xm_V hk1 _ _)) rfl 3 (by decide) (htb _ k1_116) (fun _ h9 => h9) rfl dV_surrounds_8 ?_
  refine mc_r (va_runSN (As := [.int (I0 j1 3)]) (rest := [.int (fF_epochOf I0 J0 (I0 jT 3))]) ⟨hx, hb, hml, hown, htb⟩ (C_F_epochOf l D ca ad I0 J0 (I0 j1 3)) ⟨va_cnB 1 htb (gd_c k1_221) rfl rfl rfl (nl_4 hN) (htb _ k1_1) (by decide +kernel) ⟨Nat.le_of_ble_eq_true rfl, Nat.le_of_ble_eq_true rfl⟩, htb _ k1_220, trivial⟩ (mPre_S hK hP hD hN) rfl rfl hl.1 rfl (lv_room (Nat.le_of_ble_eq_true rfl)) dV_surrounds_11 ⟨Nat.le_of_ble_eq_true rfl, Nat.le_of_ble_eq_true rfl⟩) hS (fun H locs hP hS => ?_)
  refine lv_icmp_ge (tgt := 38) hx hb dV_surrounds_14 (by decide) (fun hc => ?_) (fun hc => ?_)
  · have h := h.1 hc
    refine lv_iconst (v := 0) hx hb dV_surrounds_38 (by decide) ?_
    exact me_z hx hb hr hlk hP hS rfl h dV_surrounds_39
  · have h := h.2 hc
    refine lv_aload_n hx hb dV_surrounds_17 rfl (lv_at hl 0 rfl) ?_
    refine va_get (D := D) (ci := 4) (v := .int (I0 jT 4)) (C := RV) (T := TV) (N := 5) hx hb htb inV hown hK hP jT (mw_at (xk_lt hkT (by decide)) (xm_V hkT _ _)) rfl 4 (by decide) (htb _ k1_118) (fun _ h9 => h9) rfl dV_surrounds_18 ?_
    refine mc_r (va_runSN (As := [.int (I0 jT 4)]) (rest := []) ⟨hx, hb, hml, hown, htb⟩ (C_F_epochOf l D ca ad I0 J0 (I0 jT 4)) ⟨va_cnB 1 htb (gd_c k1_221) rfl rfl rfl (nl_4 hN) (htb _ k1_1) (by decide +kernel) ⟨Nat.le_of_ble_eq_true rfl, Nat.le_of_ble_eq_true rfl⟩, htb _ k1_220, trivial⟩ (mPre_S hK hP hD hN) rfl rfl hl.1 rfl (lv_room (Nat.le_of_ble_eq_true rfl)) dV_surrounds_21 ⟨Nat.le_of_ble_eq_true rfl, Nat.le_of_ble_eq_true rfl⟩) hS (fun H locs hP hS => ?_)
    refine lv_aload_n hx hb dV_surrounds_24 rfl (lv_at hl 1 rfl) ?_
    refine va_get (D := D) (ci := 4) (v := .int (I0 j1 4)) (C := RV) (T := TV) (N := 5) hx hb htb inV hown hK hP j1 (mw_at (xk_lt hk1 (by decide)) (xm_V hk1 _ _)) rfl 4 (by decide) (htb _ k1_118) (fun _ h9 => h9) rfl dV_surrounds_25 ?_
    refine mc_r (va_runSN (As := [.int (I0 j1 4)]) (rest := [.int (fF_epochOf I0 J0 (I0 jT 4))]) ⟨hx, hb, hml, hown, htb⟩ (C_F_epochOf l D ca ad I0 J0 (I0 j1 4)) ⟨va_cnB 1 htb (gd_c k1_221) rfl rfl rfl (nl_4 hN) (htb _ k1_1) (by decide +kernel) ⟨Nat.le_of_ble_eq_true rfl, Nat.le_of_ble_eq_true rfl⟩, htb _ k1_220, trivial⟩ (mPre_S hK hP hD hN) rfl rfl hl.1 rfl (lv_room (Nat.le_of_ble_eq_true rfl)) dV_surrounds_28 ⟨Nat.le_of_ble_eq_true rfl, Nat.le_of_ble_eq_true rfl⟩) hS (fun H locs hP hS => ?_)
    refine lv_icmp_le (tgt := 38) hx hb dV_surrounds_31 (by decide) (fun hc => ?_) (fun hc => ?_)
    · have h := h.1 hc
      refine lv_iconst (v := 0) hx hb dV_surrounds_38 (by decide) ?_
      exact me_z hx hb hr hlk hP hS rfl h dV_surrounds_39
    · have h := h.2 hc
      refine lv_iconst (v := 1) hx hb dV_surrounds_34 (by decide) ?_
      refine lv_goto (tgt := 39) hx hb dV_surrounds_35 (by decide) ?_
      exact me_z hx hb hr hlk hP hS rfl h dV_surrounds_39
