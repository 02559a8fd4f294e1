-- constructors: a world that grows
theorem va_RA_eq {U : State} {cA cB : ClassId} {ty : FieldType} (h1 : va_RA U cA ty) (h2 : va_RA U cB ty) : cA = cB := by
  cases ty with
  | object C =>
    obtain ⟨_, _, _, _, _, h3⟩ := h1
    obtain ⟨_, _, _, _, _, h4⟩ := h2
    exact Option.some.inj (h3.symm.trans h4)
  | _ => exact Option.some.inj (Eq.trans (Eq.symm h1) h2)
def cPre (D : va_G) (ca : Nat → Nat) (ws : va_W) (sz : Nat) (U : State) : Prop := U.heap.size = sz ∧ va_P D vwCl ws U.heap ∧ va_K D vwCl (xty ca) U ∧ va_D (fun _ => True) ws ∧ mNW nL U
def cQ (D : va_G) (ws : va_W) (sz : Nat) (post : va_W → Prop) : Array Value → State → Outcome → State → Prop := va_Qv (S := va_W) post (fun u t => va_P D vwCl u t.heap ∧ va_D (va_A ws sz) u) (va_A ws sz)
theorem cPre_blind {D : va_G} {ca : Nat → Nat} {ws : va_W} {sz : Nat} {av : List Value} : FrameBlind (va_Pc av (cPre D ca ws sz)) := by
  intro a U g mk' q
  obtain ⟨q0, q1, qP, qK, qD, qN⟩ := q
  exact ⟨q0, q1, qP, va_K.moved (u := U) (U := U.calling g mk' a) (Vm.Alike.refl U.vm) qK, qD, fun w hw => va_Nw.same rfl rfl (qN w hw)⟩
theorem va_P_l {D : va_G} {cl : List vw_C} {w u : va_W} {H : Heap} (h : va_P D cl (w ++ u) H) : va_P D cl w H := fun k q hk => h k q (by rw [List.getElem?_append_left (List.getElem?_eq_some_iff.mp hk).1]; exact hk)
theorem va_P_r {D : va_G} {cl : List vw_C} {w u : va_W} {H : Heap} (h : va_P D cl (w ++ u) H) : va_P D cl u H := fun k q hk => h (w.length + k) q (by rw [List.getElem?_append_right (by omega), show w.length + k - w.length = k from by omega]; exact hk)
theorem va_D_l {A : Nat → Prop} {w u : va_W} (h : va_D A (w ++ u)) : va_D A w := by
  have e : ∀ {k : Nat} {q : Nat × va_E}, w[k]? = some q → (w ++ u)[k]? = some q := fun hk => by rw [List.getElem?_append_left (List.getElem?_eq_some_iff.mp hk).1]; exact hk
  exact ⟨fun i j p q hi hj hpq => h.1 i j p q (e hi) (e hj) hpq, fun k q hk => h.2 k q (e hk)⟩
theorem va_D_r {A : Nat → Prop} {w u : va_W} (h : va_D A (w ++ u)) : va_D A u := by
  have e : ∀ {k : Nat} {q : Nat × va_E}, u[k]? = some q → (w ++ u)[w.length + k]? = some q := fun {k} {q} hk => by rw [List.getElem?_append_right (by omega), show w.length + k - w.length = k from by omega]; exact hk
  refine ⟨fun i j p q hi hj hpq => ?_, fun k q hk => h.2 _ q (e hk)⟩
  have := h.1 _ _ p q (e hi) (e hj) hpq
  omega
theorem cPre_S {s : State} {H : Heap} {D : va_G} {ca : Nat → Nat} {w : va_W} {x : Nat × va_E} {A : Nat → Prop} {av : List Value} (hK : va_K D vwCl (xty ca) s) (hP : va_P D vwCl (w ++ [x]) H) (hD : va_D A (w ++ [x])) (hN : mNW nL s) : PreS s H (va_Pc av (cPre D ca [x] H.size)) av :=
  ⟨cPre_blind, fun U hU hW => ⟨rfl, by rw [hU], by rw [hU]; exact va_P_r hP, va_K.moved hW.alike hK, (va_D_r hD).weaken (fun _ _ _ _ => trivial), hN.warm hW⟩⟩
theorem row_P {D : va_G} {cl : List vw_C} {w : va_W} {q : Nat} {cA : ClassId} {n : Nat} {f g : Nat → Int32} {H : Heap} (hfg : ∀ v, v < n → f v = g v) (h : va_P D cl (w ++ [(q, .inl (cA, n, .inl f))]) H) : va_P D cl (w ++ [(q, .inl (cA, n, .inl g))]) H := by
  refine (va_P_l h).app (fun k x hk => ?_)
  have hz : k < 1 := (List.getElem?_eq_some_iff.mp hk).1
  rw [show k = 0 by omega] at hk
  cases hk
  have h0 := va_P_r h 0 (q, .inl (cA, n, .inl f)) rfl
  show H[q]? = some (vp_cell cA (n, .inl g))
  have e : vp_cell cA (n, .inl g) = vp_cell cA (n, .inl f) := by
    rw [vp_cell_i, vp_cell_i]
    unfold arrV
    congr 2
    funext j
    show Value.int (g j.val) = Value.int (f j.val)
    rw [hfg j.val j.isLt]
  rw [e]
  exact h0
theorem row_D {A : Nat → Prop} {w : va_W} {q : Nat} {x y : va_E} (h : va_D A (w ++ [(q, x)])) : va_D A (w ++ [(q, y)]) := by
  have := h.set (p := w.length) (e := y) (e0 := x) (a := q) (by rw [List.getElem?_append_right (by omega), show w.length - w.length = 0 from by omega]; rfl)
  rw [List.set_append_right _ _ (by omega), show w.length - w.length = 0 from by omega] at this
  exact this
section CC
variable {p : Program} {l : Launch} {e : Env} {R : Room} {s : State} {m : MethodId} {args : Array Value} {below : List Frame} {meth : Method} {c : Code} {H H0 : Heap} {locs : List Loc} {cells slots : Nat} {Q : State → Prop} {cc : ByteArray} {pc : Nat} {ls : Array Slot} {rest st0 : List Value} {a : Array Value}
variable {D : va_G} {A : Nat → Prop} {mc ms : Nat}
theorem cc_v {w : va_W} {x : Nat × va_E} {post : va_W → Prop} (hr : va_Run p l e R s m args below meth c H locs cells slots mc ms (F0 m pc ls st0) rest (cQ D [x] H.size post a) (va_A [x] H.size)) (hP : va_P D vwCl (w ++ [x]) H) (hD : va_D A (w ++ [x])) (hS : va_S A H0 H locs) (hA : ∀ q, H0.size ≤ q → A q)
    (kk : ∀ (u : va_W) (H1 : Heap) (locs1 : List Loc), post u → va_P D vwCl (w ++ u) H1 → va_D A (w ++ u) → va_S A H0 H1 locs1 → W p l e R s m args below meth c H1 locs1 (cells + mc) (slots + ms) Q (F0 m (pc + 3) ls rest)) : W p l e R s m args below meth c H locs cells slots Q (F0 m pc ls st0) := by
  have hx : (w ++ [x])[w.length]? = some x := by rw [List.getElem?_append_right (by omega), show w.length - w.length = 0 from by omega]; rfl
  have hF : ∀ q, va_A [x] H.size q → A q := fun q h => by
    rcases h with ⟨k, e, h⟩ | h
    · exact (va_D_r hD).2 k _ h
    · exact hA q (Nat.le_trans hS.1 h)
  have hw : ∀ (k : Nat) (q : Nat × va_E), w[k]? = some q → q.1 < H.size ∧ ¬ va_A [x] H.size q.1 := fun k q hk => by
    have hk' : (w ++ [x])[k]? = some q := by rw [List.getElem?_append_left (List.getElem?_eq_some_iff.mp hk).1]; exact hk
    have hl := (hP k q hk').lt
    refine ⟨hl, fun h => ?_⟩
    rcases h with ⟨k2, e2, h⟩ | h
    · have hz : k2 < 1 := (List.getElem?_eq_some_iff.mp h).1
      rw [show k2 = 0 by omega] at h
      have hxe : x = (q.1, e2) := Option.some.inj h
      have := hD.1 k w.length q x hk' hx (by rw [hxe])
      have := (List.getElem?_eq_some_iff.mp hk).1
      omega
    · omega
  refine va_callv hr hS (fun q _ h => hF q h) hF (fun u t H1 locs1 ht hvm hp hB hz hk hS1 => ?_)
  obtain ⟨hP1, hD1⟩ := hB
  rw [ht] at hP1
  refine kk u H1 locs1 hp (((va_P_l hP).kept (fun k q hq => hk q.1 (hw k q hq).1 (hw k q hq).2)).app hP1) ((va_D_l hD).app (hD1.weaken (fun _ q _ h => hF q.1 h)) (fun i j p0 q0 hi hj hpq => ?_)) hS1
  exact (hw i p0 hi).2 (by rw [hpq]; exact hD1.2 j q0 hj)
theorem mr_newa {cl : List vw_C} {tys : List (ClassId × FieldType)} {ws : va_W} (hexec : p.tables.exec = Jvm.exec) (hb : c.code = cc) {atype : ArrayType} (harr : (Cond.arrayClass (newarray.typeOf atype)).before args s = true) {ty : FieldType} (hty : newarray.typeOf atype = ty) (hK : va_K D cl tys s) (hP : va_P D cl ws H) (hD : va_D A ws) (hS : va_S A H0 H locs) (hA : ∀ q, H0.size ≤ q → A q) (t0 : Nat) {cA : ClassId} (ht : tys[t0]? = some (cA, ty))
    {n : Int32} {N' : Nat} {a0 : vp_A} (ha : ∀ cA : ClassId, vp_cell cA a0 = arrV cA N' (fun _ => defaultValue ty)) (hn : ¬ n < 0) (hN : n.toNatClampNeg = N') (hbytes : N' * componentBytes ty ≤ 536870912) (hcells : cells + 1 ≤ R.cells) (hslots : slots + N' ≤ R.slots) (hdg : decode cc pc = .ok (.newarray atype, 2))
    (kk : ∀ (q : Nat) (H1 : Heap), va_P D cl (ws ++ [(q, .inl (cA, a0))]) H1 → va_D A (ws ++ [(q, .inl (cA, a0))]) → va_S A H0 H1 locs → W p l e R s m args below meth c H1 locs (cells + 1) (slots + N') Q (F0 m (pc + 2) ls (.ref q :: rest))) : W p l e R s m args below meth c H locs cells slots Q (F0 m pc ls (.int n :: rest)) :=
  va_newa hexec hb harr hty hK hP hD hS hA ha hn hN hbytes hcells hslots hdg (fun q cB H1 hK' hP' hD' hS' => by
    have e : cB = cA := va_RA_eq (hK'.2 tys.length _ (by rw [List.getElem?_append_right (by omega), show tys.length - tys.length = 0 from by omega]; rfl)).2 (hK.2 t0 _ ht).2
    subst e
    exact kk q H1 hP' hD' hS')
theorem mr_newq {cl : List vw_C} {tys : List (ClassId × FieldType)} {ws : va_W} (hexec : p.tables.exec = Jvm.exec) (hb : c.code = cc) {own C : String} {index : Nat} (hown : s.vm.findClass own = some m.cls) (hclink : (Cond.classLink own index C).before args s = true) (hover : va_AO C s) (hK : va_K D cl tys s) (hP : va_P D cl ws H) (hD : va_D A ws) (hS : va_S A H0 H locs) (hA : ∀ q, H0.size ≤ q → A q) (t0 : Nat) {cA : ClassId} (ht : tys[t0]? = some (cA, .object C))
    {n : Int32} {N' : Nat} (hn : ¬ n < 0) (hN : n.toNatClampNeg = N') (hbytes : N' * 4 ≤ 536870912) (hcells : cells + 1 ≤ R.cells) (hslots : slots + N' ≤ R.slots) (hdg : decode cc pc = .ok (.anewarray index, 3))
    (kk : ∀ (q : Nat) (H1 : Heap), va_P D cl (ws ++ [(q, .inl (cA, N', .inr (.inr (.inr (.inr (fun _ => none))))))]) H1 → va_D A (ws ++ [(q, .inl (cA, N', .inr (.inr (.inr (.inr (fun _ => none))))))]) → va_S A H0 H1 locs → W p l e R s m args below meth c H1 locs (cells + 1) (slots + N') Q (F0 m (pc + 3) ls (.ref q :: rest))) : W p l e R s m args below meth c H locs cells slots Q (F0 m pc ls (.int n :: rest)) :=
  va_newq hexec hb hown hclink hover hK hP hD hS hA hn hN hbytes hcells hslots hdg (fun q cB H1 hK' hP' hD' hS' => by
    have e : cB = cA := va_RA_eq (hK'.2 tys.length _ (by rw [List.getElem?_append_right (by omega), show tys.length - tys.length = 0 from by omega]; rfl)).2 (hK.2 t0 _ ht).2
    subst e
    exact kk q H1 hP' hD' hS')
end CC

set_option maxHeartbeats 4000000 in
set_option maxRecDepth 100000 in
theorem C_I_init (l : Launch) (D : va_G) (ca : Nat → Nat) (a sz : Nat) : Met l yI_init wI_init ({ frames := 1, cells := 2, slots := 8, locals := 12 } : Room) (va_Pc [.ref a] (cPre D ca [(a, .inr (1, [.null, .null, .int 0]))] sz)) (cQ D [(a, .inr (1, [.null, .null, .int 0]))] sz (fun u => ∃ q1 q2 : Nat, u = [(a, .inr (1, [.ref q1, .ref q2, .int 0])), (q1, .inl (ca 0, 4, .inl (fun _ => 0))), (q2, .inl (ca 0, 4, .inl (fun _ => 0)))])) 2 8 (va_A [(a, .inr (1, [.null, .null, .int 0]))] sz) := by
  refine Met.ofW (cc := cI_init) (maxL := 1) (ret := none) (by decide) rfl ?_
  intro p e s m args below meth c s₁ B hml hv
  obtain ⟨rfl, hsz, hP, hK, hD0, hN⟩ := hv
  have hx := B.exec
  have hb := B.bytes
  have hr := B.returns
  have htb : ∀ w ∈ wb, w.before _ s = true := fun w h => atoms_spec (ws := wI_init) B.pre w (List.mem_cons_of_mem _ h)
  have hown : s.vm.findClass RI = some m.cls := findClass_of_methodNamed B.named
  have hlk := B.notSynchronized
  have hin : meth.name = "<init>" := (name_of_methodNamed B.named B.method).1
  subst hsz
  have hD := hD0.self (sz := s.heap.size)
  generalize hAe : va_A [(a, .inr (1, [.null, .null, .int 0]))] s.heap.size = A at hD ⊢
  have hA : ∀ q : Nat, s.heap.size ≤ q → A q := fun q h => by rw [← hAe]; exact Or.inr h
  have hS : va_S A s.heap s.heap [] := va_S.rf
  have hl := lv_entry ([.ref a]) (n := 1) (Nat.le_of_ble_eq_true rfl)
  rw [lg_entry_eq]
  generalize (lg_sl ([.ref a]) ++ List.replicate (1 - (lg_sl ([.ref a])).length) Slot.unset).toArray = ls at hl ⊢
  have hl : lv_has ls 1 [(0, .ref a)] := hl
  refine lv_aload_n hx hb dI_init_0 rfl (lv_at hl 0 rfl) ?_
  refine W.objInit hx hb hown (htb _ k1_36) (htb _ k1_16) (htb _ k1_17) rfl (by rw [hml]; exact hl.1) rfl dI_init_1 (Nat.le_of_ble_eq_true rfl) (Nat.le_of_ble_eq_true rfl) ?_
  refine W.eq (g2 := F0 m 4 ls []) rfl ?_
  refine lv_aload_n hx hb dI_init_4 rfl (lv_at hl 0 rfl) ?_
  refine lv_iconst (v := 4) hx hb dI_init_5 (by decide) ?_
  refine mr_newa (atype := .int) (a0 := (4, .inl (fun _ => 0))) hx hb (htb _ k1_50) rfl hK hP hD hS hA 0 rfl (fun _ => rfl) (by decide) rfl (by decide) (Nat.le_of_ble_eq_true rfl) (Nat.le_of_ble_eq_true rfl) dI_init_6 (fun q1 H hP hD hS => ?_)
  have hP : va_P D vwCl [(a, .inr (1, [.null, .null, .int 0])), (q1, .inl (ca 0, 4, .inl (fun _ => 0)))] H := hP
  have hD : va_D A [(a, .inr (1, [.null, .null, .int 0])), (q1, .inl (ca 0, 4, .inl (fun _ => 0)))] := hD
  refine va_putF (D := D) (ci := 1) (v := .ref q1) (ty := (.array .int)) (C := RI) (T := TI) (N := 3) hx hb htb inI tyI tyI_ok nmI hown hK hP hD hS 0 rfl rfl 0 (by decide) (htb _ k1_37) (fun _ h9 => h9) rfl hin rfl (by decide +kernel) rfl rfl (Nat.le_of_ble_eq_true rfl) dI_init_8 (fun H locs hP hD hS => ?_)
  have hP : va_P D vwCl [(a, .inr (1, [.ref q1, .null, .int 0])), (q1, .inl (ca 0, 4, .inl (fun _ => 0)))] H := hP
  have hD : va_D A [(a, .inr (1, [.ref q1, .null, .int 0])), (q1, .inl (ca 0, 4, .inl (fun _ => 0)))] := hD
  refine lv_aload_n hx hb dI_init_11 rfl (lv_at hl 0 rfl) ?_
  refine lv_iconst (v := 4) hx hb dI_init_12 (by decide) ?_
  refine mr_newa (atype := .int) (a0 := (4, .inl (fun _ => 0))) hx hb (htb _ k1_50) rfl hK hP hD hS hA 0 rfl (fun _ => rfl) (by decide) rfl (by decide) (Nat.le_of_ble_eq_true rfl) (Nat.le_of_ble_eq_true rfl) dI_init_13 (fun q2 H hP hD hS => ?_)
  have hP : va_P D vwCl [(a, .inr (1, [.ref q1, .null, .int 0])), (q1, .inl (ca 0, 4, .inl (fun _ => 0))), (q2, .inl (ca 0, 4, .inl (fun _ => 0)))] H := hP
  have hD : va_D A [(a, .inr (1, [.ref q1, .null, .int 0])), (q1, .inl (ca 0, 4, .inl (fun _ => 0))), (q2, .inl (ca 0, 4, .inl (fun _ => 0)))] := hD
  refine va_putF (D := D) (ci := 1) (v := .ref q2) (ty := (.array .int)) (C := RI) (T := TI) (N := 3) hx hb htb inI tyI tyI_ok nmI hown hK hP hD hS 0 rfl rfl 1 (by decide) (htb _ k1_39) (fun _ h9 => h9) rfl hin rfl (by decide +kernel) rfl rfl (Nat.le_of_ble_eq_true rfl) dI_init_15 (fun H locs hP hD hS => ?_)
  have hP : va_P D vwCl [(a, .inr (1, [.ref q1, .ref q2, .int 0])), (q1, .inl (ca 0, 4, .inl (fun _ => 0))), (q2, .inl (ca 0, 4, .inl (fun _ => 0)))] H := hP
  have hD : va_D A [(a, .inr (1, [.ref q1, .ref q2, .int 0])), (q1, .inl (ca 0, 4, .inl (fun _ => 0))), (q2, .inl (ca 0, 4, .inl (fun _ => 0)))] := hD
  refine W.widen (k := 2) (n := 8) (Nat.le_of_ble_eq_true rfl) (Nat.le_of_ble_eq_true rfl) ?_
  rw [← hAe] at hD hS ⊢
  exact W.vret hx hb hr (fun t ht hW => ⟨⟨[(a, .inr (1, [.ref q1, .ref q2, .int 0])), (q1, .inl (ca 0, 4, .inl (fun _ => 0))), (q2, .inl (ca 0, 4, .inl (fun _ => 0)))], rfl, ⟨q1, q2, rfl⟩, by rw [ht]; exact hP, hD⟩, hS.F ht⟩) hS.2.2 dI_init_18 hlk
set_option maxHeartbeats 4000000 in
set_option maxRecDepth 100000 in
theorem C_V_init (l : Launch) (D : va_G) (ca : Nat → Nat) (a sz : Nat) : Met l yV_init wV_init ({ frames := 1, cells := 0, slots := 0, locals := 12 } : Room) (va_Pc [.ref a] (cPre D ca [(a, .inr (4, [.int 0, .int 0, .int 0, .int 0, .int 0]))] sz)) (cQ D [(a, .inr (4, [.int 0, .int 0, .int 0, .int 0, .int 0]))] sz (fun u => u = [(a, .inr (4, [.int 0, .int 0, .int 0, .int 0, .int 0]))])) 0 0 (va_A [(a, .inr (4, [.int 0, .int 0, .int 0, .int 0, .int 0]))] sz) := by
  refine Met.ofW (cc := cV_init) (maxL := 1) (ret := none) (by decide) rfl ?_
  intro p e s m args below meth c s₁ B hml hv
  obtain ⟨rfl, hsz, hP, hK, hD0, hN⟩ := hv
  have hx := B.exec
  have hb := B.bytes
  have hr := B.returns
  have htb : ∀ w ∈ wb, w.before _ s = true := fun w h => atoms_spec (ws := wV_init) B.pre w (List.mem_cons_of_mem _ h)
  have hown : s.vm.findClass RV = some m.cls := findClass_of_methodNamed B.named
  have hlk := B.notSynchronized
  have hin : meth.name = "<init>" := (name_of_methodNamed B.named B.method).1
  subst hsz
  have hD := hD0.self (sz := s.heap.size)
  generalize hAe : va_A [(a, .inr (4, [.int 0, .int 0, .int 0, .int 0, .int 0]))] s.heap.size = A at hD ⊢
  have hA : ∀ q : Nat, s.heap.size ≤ q → A q := fun q h => by rw [← hAe]; exact Or.inr h
  have hS : va_S A s.heap s.heap [] := va_S.rf
  have hl := lv_entry ([.ref a]) (n := 1) (Nat.le_of_ble_eq_true rfl)
  rw [lg_entry_eq]
  generalize (lg_sl ([.ref a]) ++ List.replicate (1 - (lg_sl ([.ref a])).length) Slot.unset).toArray = ls at hl ⊢
  have hl : lv_has ls 1 [(0, .ref a)] := hl
  refine lv_aload_n hx hb dV_init_0 rfl (lv_at hl 0 rfl) ?_
  refine W.objInit hx hb hown (htb _ k1_112) (htb _ k1_16) (htb _ k1_17) rfl (by rw [hml]; exact hl.1) rfl dV_init_1 (Nat.le_of_ble_eq_true rfl) (Nat.le_of_ble_eq_true rfl) ?_
  refine W.eq (g2 := F0 m 4 ls []) rfl ?_
  refine W.widen (k := 0) (n := 0) (Nat.le_of_ble_eq_true rfl) (Nat.le_of_ble_eq_true rfl) ?_
  rw [← hAe] at hD hS ⊢
  exact W.vret hx hb hr (fun t ht hW => ⟨⟨[(a, .inr (4, [.int 0, .int 0, .int 0, .int 0, .int 0]))], rfl, rfl, by rw [ht]; exact hP, hD⟩, hS.F ht⟩) hS.2.2 dV_init_4 hlk
set_option maxHeartbeats 4000000 in
set_option maxRecDepth 100000 in
theorem C_S_init (l : Launch) (D : va_G) (ca : Nat → Nat) (a sz : Nat) : Met l yS_init wS_init ({ frames := 1, cells := 1, slots := 7, locals := 12 } : Room) (va_Pc [.ref a] (cPre D ca [(a, .inr (3, [.null, .int 0, .int 0, .int 0, .int 0, .int 0, .int 0]))] sz)) (cQ D [(a, .inr (3, [.null, .int 0, .int 0, .int 0, .int 0, .int 0, .int 0]))] sz (fun u => ∃ q1 : Nat, u = [(a, .inr (3, [.ref q1, .int 0, .int 0, .int 0, .int 0, .int 0, .int 0])), (q1, .inl (ca 0, 7, .inl (fun _ => 32)))])) 1 7 (va_A [(a, .inr (3, [.null, .int 0, .int 0, .int 0, .int 0, .int 0, .int 0]))] sz) := by
  refine Met.ofW (cc := cS_init) (maxL := 2) (ret := none) (by decide) rfl ?_
  intro p e s m args below meth c s₁ B hml hv
  obtain ⟨rfl, hsz, hP, hK, hD0, hN⟩ := hv
  have hx := B.exec
  have hb := B.bytes
  have hr := B.returns
  have htb : ∀ w ∈ wb, w.before _ s = true := fun w h => atoms_spec (ws := wS_init) B.pre w (List.mem_cons_of_mem _ h)
  have hown : s.vm.findClass RS = some m.cls := findClass_of_methodNamed B.named
  have hlk := B.notSynchronized
  have hin : meth.name = "<init>" := (name_of_methodNamed B.named B.method).1
  subst hsz
  have hD := hD0.self (sz := s.heap.size)
  generalize hAe : va_A [(a, .inr (3, [.null, .int 0, .int 0, .int 0, .int 0, .int 0, .int 0]))] s.heap.size = A at hD ⊢
  have hA : ∀ q : Nat, s.heap.size ≤ q → A q := fun q h => by rw [← hAe]; exact Or.inr h
  have hS : va_S A s.heap s.heap [] := va_S.rf
  have hl := lv_entry ([.ref a]) (n := 2) (Nat.le_of_ble_eq_true rfl)
  rw [lg_entry_eq]
  generalize (lg_sl ([.ref a]) ++ List.replicate (2 - (lg_sl ([.ref a])).length) Slot.unset).toArray = ls at hl ⊢
  have hl : lv_has ls 2 [(0, .ref a)] := hl
  refine lv_aload_n hx hb dS_init_0 rfl (lv_at hl 0 rfl) ?_
  refine W.objInit hx hb hown (htb _ k1_56) (htb _ k1_16) (htb _ k1_17) rfl (by rw [hml]; exact hl.1) rfl dS_init_1 (Nat.le_of_ble_eq_true rfl) (Nat.le_of_ble_eq_true rfl) ?_
  refine W.eq (g2 := F0 m 4 ls []) rfl ?_
  refine lv_aload_n hx hb dS_init_4 rfl (lv_at hl 0 rfl) ?_
  refine lv_bipush (v := 7) hx hb dS_init_5 (by decide) ?_
  refine mr_newa (atype := .int) (a0 := (7, .inl (fun _ => 0))) hx hb (htb _ k1_50) rfl hK hP hD hS hA 0 rfl (fun _ => rfl) (by decide) rfl (by decide) (Nat.le_of_ble_eq_true rfl) (Nat.le_of_ble_eq_true rfl) dS_init_7 (fun q1 H hP hD hS => ?_)
  have hP : va_P D vwCl [(a, .inr (3, [.null, .int 0, .int 0, .int 0, .int 0, .int 0, .int 0])), (q1, .inl (ca 0, 7, .inl (fun _ => 0)))] H := hP
  have hD : va_D A [(a, .inr (3, [.null, .int 0, .int 0, .int 0, .int 0, .int 0, .int 0])), (q1, .inl (ca 0, 7, .inl (fun _ => 0)))] := hD
  refine va_putF (D := D) (ci := 3) (v := .ref q1) (ty := (.array .int)) (C := RS) (T := TS) (N := 7) hx hb htb inS tyS tyS_ok nmS hown hK hP hD hS 0 rfl rfl 0 (by decide) (htb _ k1_57) (fun _ h9 => h9) rfl hin rfl (by decide +kernel) rfl rfl (Nat.le_of_ble_eq_true rfl) dS_init_9 (fun H locs hP hD hS => ?_)
  have hP : va_P D vwCl [(a, .inr (3, [.ref q1, .int 0, .int 0, .int 0, .int 0, .int 0, .int 0])), (q1, .inl (ca 0, 7, .inl (fun _ => 0)))] H := hP
  have hD : va_D A [(a, .inr (3, [.ref q1, .int 0, .int 0, .int 0, .int 0, .int 0, .int 0])), (q1, .inl (ca 0, 7, .inl (fun _ => 0)))] := hD
  have key : ∀ (k i : Nat) (f : Nat → Int32) (H : Heap) (locs : List Loc) (ls : Array Slot), i + k = 7 → (∀ v, v < i → f v = 32) → va_P D vwCl [(a, .inr (3, [.ref q1, .int 0, .int 0, .int 0, .int 0, .int 0, .int 0])), (q1, .inl (ca 0, 7, .inl f))] H → va_D A [(a, .inr (3, [.ref q1, .int 0, .int 0, .int 0, .int 0, .int 0, .int 0])), (q1, .inl (ca 0, 7, .inl f))] → va_S A s.heap H locs → lv_has ls 2 [(1, .int (nI i)), (0, .ref a)] → W p l e (headSpec wS_init ({ frames := 1, cells := 1, slots := 7, locals := 12 } : Room)).room s m (([.ref a] : List Value).toArray) below meth c H locs 1 7 (MQ below (cQ D [(a, .inr (3, [.null, .int 0, .int 0, .int 0, .int 0, .int 0, .int 0]))] s.heap.size (fun u => ∃ q1 : Nat, u = [(a, .inr (3, [.ref q1, .int 0, .int 0, .int 0, .int 0, .int 0, .int 0])), (q1, .inl (ca 0, 7, .inl (fun _ => 32)))])) (([.ref a] : List Value).toArray) s 1 7 A) (F0 m 14 ls []) := by
    intro k
    induction k with
    | zero =>
      intro i f H locs ls hi hf hP hD hS hl
      have hi : i = 7 := by omega
      subst hi
      refine lv_iload_n hx hb dS_init_14 rfl (lv_at hl 0 rfl) ?_
      refine lv_bipush (v := 7) hx hb dS_init_15 (by decide) ?_
      refine lv_icmp_ge (tgt := 34) hx hb dS_init_17 (by decide) (fun hc => ?_) (fun hc => absurd (nI_le (a := 7) (b := 7) (Nat.le_refl _) (by omega)) hc)
      rw [← hAe] at hD hS ⊢
      have hP : va_P D vwCl [(a, .inr (3, [.ref q1, .int 0, .int 0, .int 0, .int 0, .int 0, .int 0])), (q1, .inl (ca 0, 7, .inl (fun _ => 32)))] H := row_P (w := [(a, .inr (3, [.ref q1, .int 0, .int 0, .int 0, .int 0, .int 0, .int 0]))]) (g := fun _ => 32) (fun v hv => hf v hv) hP
      have hD : va_D _ [(a, .inr (3, [.ref q1, .int 0, .int 0, .int 0, .int 0, .int 0, .int 0])), (q1, .inl (ca 0, 7, .inl (fun _ => 32)))] := row_D (w := [(a, .inr (3, [.ref q1, .int 0, .int 0, .int 0, .int 0, .int 0, .int 0]))]) hD
      exact W.vret hx hb hr (fun t ht hW => ⟨⟨[(a, .inr (3, [.ref q1, .int 0, .int 0, .int 0, .int 0, .int 0, .int 0])), (q1, .inl (ca 0, 7, .inl (fun _ => 32)))], rfl, ⟨q1, rfl⟩, by rw [ht]; exact hP, hD⟩, hS.F ht⟩) hS.2.2 dS_init_34 hlk
    | succ k ih =>
      intro i f H locs ls hi hf hP hD hS hl
      refine lv_iload_n hx hb dS_init_14 rfl (lv_at hl 0 rfl) ?_
      refine lv_bipush (v := 7) hx hb dS_init_15 (by decide) ?_
      refine lv_icmp_ge (tgt := 34) hx hb dS_init_17 (by decide) (fun hc => absurd hc (nI_ge (b := 7) (by omega) (by omega))) (fun hc => ?_)
      refine lv_aload_n hx hb dS_init_20 rfl (lv_at hl 1 rfl) ?_
      refine va_get (D := D) (ci := 3) (v := .ref q1) (C := RS) (T := TS) (N := 7) hx hb htb inS hown hK hP 0 rfl rfl 0 (by decide) (htb _ k1_57) (fun _ h9 => h9) rfl dS_init_21 ?_
      refine lv_iload_n hx hb dS_init_24 rfl (lv_at hl 0 rfl) ?_
      refine lv_bipush (v := 32) hx hb dS_init_25 (by decide) ?_
      refine va_iast hx hb hK hP hD hS 1 0 rfl rfl (vp_in_nI (show i < 7 by omega) (by omega)) dS_init_27 (fun H locs hP hD hS => ?_)
      rw [show (nI i).toNatClampNeg = i from nI_clamp (by omega)] at hP hD
      refine lv_iinc (k := 0) (v := nI i + 1) (lv' := [(1, .int (nI i + 1)), (0, .ref a)]) hx hb dS_init_28 hl rfl (by rfl) (by decide) rfl (fun ls hl => ?_)
      rw [nI_1] at hl
      refine lv_goto (tgt := 14) hx hb dS_init_31 (by decide) ?_
      refine ih (i + 1) (upd f i 32) H locs ls (by omega) (fun v hv => ?_) hP hD hS hl
      unfold upd
      by_cases e : v = i
      · rw [if_pos e]
      · rw [if_neg e]; exact hf v (by omega)
  refine lv_iconst (v := 0) hx hb dS_init_12 (by decide) ?_
  refine lv_istore_n (lv' := [(1, .int 0), (0, .ref a)]) hx hb dS_init_13 rfl hl (by decide) rfl (fun ls hl => ?_)
  refine W.widen (k := 1) (n := 7) (Nat.le_of_ble_eq_true rfl) (Nat.le_of_ble_eq_true rfl) ?_
  exact key 7 0 (fun _ => 0) H _ ls (by omega) (fun v hv => by omega) hP hD hS hl
set_option maxHeartbeats 4000000 in
set_option maxRecDepth 100000 in
theorem C_N_init (l : Launch) (D : va_G) (ca : Nat → Nat) (a sz : Nat) : Met l yN_init wN_init ({ frames := 1, cells := 2, slots := 87, locals := 12 } : Room) (va_Pc [.ref a] (cPre D ca [(a, .inr (2, [.long 0, .null, .null, .int 0, .int 0]))] sz)) (cQ D [(a, .inr (2, [.long 0, .null, .null, .int 0, .int 0]))] sz (fun u => ∃ q1 q2 : Nat, u = [(a, .inr (2, [.long 1, .ref q1, .ref q2, .int 0, .int 0])), (q1, .inl (ca 1, 80, .inl (fun _ => 0))), (q2, .inl (ca 0, 7, .inl (fun _ => -1)))])) 2 87 (va_A [(a, .inr (2, [.long 0, .null, .null, .int 0, .int 0]))] sz) := by
  refine Met.ofW (cc := cN_init) (maxL := 2) (ret := none) (by decide) rfl ?_
  intro p e s m args below meth c s₁ B hml hv
  obtain ⟨rfl, hsz, hP, hK, hD0, hN⟩ := hv
  have hx := B.exec
  have hb := B.bytes
  have hr := B.returns
  have htb : ∀ w ∈ wb, w.before _ s = true := fun w h => atoms_spec (ws := wN_init) B.pre w (List.mem_cons_of_mem _ h)
  have hown : s.vm.findClass RN = some m.cls := findClass_of_methodNamed B.named
  have hlk := B.notSynchronized
  have hin : meth.name = "<init>" := (name_of_methodNamed B.named B.method).1
  subst hsz
  have hD := hD0.self (sz := s.heap.size)
  generalize hAe : va_A [(a, .inr (2, [.long 0, .null, .null, .int 0, .int 0]))] s.heap.size = A at hD ⊢
  have hA : ∀ q : Nat, s.heap.size ≤ q → A q := fun q h => by rw [← hAe]; exact Or.inr h
  have hS : va_S A s.heap s.heap [] := va_S.rf
  have hl := lv_entry ([.ref a]) (n := 2) (Nat.le_of_ble_eq_true rfl)
  rw [lg_entry_eq]
  generalize (lg_sl ([.ref a]) ++ List.replicate (2 - (lg_sl ([.ref a])).length) Slot.unset).toArray = ls at hl ⊢
  have hl : lv_has ls 2 [(0, .ref a)] := hl
  refine lv_aload_n hx hb dN_init_0 rfl (lv_at hl 0 rfl) ?_
  refine W.objInit hx hb hown (htb _ k1_137) (htb _ k1_16) (htb _ k1_17) rfl (by rw [hml]; exact hl.1) rfl dN_init_1 (Nat.le_of_ble_eq_true rfl) (Nat.le_of_ble_eq_true rfl) ?_
  refine W.eq (g2 := F0 m 4 ls []) rfl ?_
  refine lv_aload_n hx hb dN_init_4 rfl (lv_at hl 0 rfl) ?_
  refine lv_lconst (v := 1) hx hb dN_init_5 (by decide) ?_
  refine va_put (D := D) (ci := 2) (v := .long 1) (ty := .long) (C := RN) (T := TN) (N := 5) hx hb htb inN tyN tyN_ok nmN hown hK hP hD hS 0 rfl rfl 0 (by decide) (htb _ k1_138) (fun _ h9 => h9) rfl (by decide +kernel) rfl rfl (Nat.le_of_ble_eq_true rfl) dN_init_6 (fun H locs hP hD hS => ?_)
  have hP : va_P D vwCl [(a, .inr (2, [.long 1, .null, .null, .int 0, .int 0]))] H := hP
  have hD : va_D A [(a, .inr (2, [.long 1, .null, .null, .int 0, .int 0]))] := hD
  refine lv_aload_n hx hb dN_init_9 rfl (lv_at hl 0 rfl) ?_
  refine lv_bipush (v := 80) hx hb dN_init_10 (by decide) ?_
  refine mr_newa (atype := .boolean) (a0 := (80, .inl (fun _ => 0))) hx hb (htb _ k1_157) rfl hK hP hD hS hA 1 rfl (fun _ => rfl) (by decide) rfl (by decide) (Nat.le_of_ble_eq_true rfl) (Nat.le_of_ble_eq_true rfl) dN_init_12 (fun q1 H hP hD hS => ?_)
  have hP : va_P D vwCl [(a, .inr (2, [.long 1, .null, .null, .int 0, .int 0])), (q1, .inl (ca 1, 80, .inl (fun _ => 0)))] H := hP
  have hD : va_D A [(a, .inr (2, [.long 1, .null, .null, .int 0, .int 0])), (q1, .inl (ca 1, 80, .inl (fun _ => 0)))] := hD
  refine va_putF (D := D) (ci := 2) (v := .ref q1) (ty := (.array .boolean)) (C := RN) (T := TN) (N := 5) hx hb htb inN tyN tyN_ok nmN hown hK hP hD hS 0 rfl rfl 1 (by decide) (htb _ k1_140) (fun _ h9 => h9) rfl hin rfl (by decide +kernel) rfl rfl (Nat.le_of_ble_eq_true rfl) dN_init_14 (fun H locs hP hD hS => ?_)
  have hP : va_P D vwCl [(a, .inr (2, [.long 1, .ref q1, .null, .int 0, .int 0])), (q1, .inl (ca 1, 80, .inl (fun _ => 0)))] H := hP
  have hD : va_D A [(a, .inr (2, [.long 1, .ref q1, .null, .int 0, .int 0])), (q1, .inl (ca 1, 80, .inl (fun _ => 0)))] := hD
  refine lv_aload_n hx hb dN_init_17 rfl (lv_at hl 0 rfl) ?_
  refine lv_bipush (v := 7) hx hb dN_init_18 (by decide) ?_
  refine mr_newa (atype := .int) (a0 := (7, .inl (fun _ => 0))) hx hb (htb _ k1_50) rfl hK hP hD hS hA 0 rfl (fun _ => rfl) (by decide) rfl (by decide) (Nat.le_of_ble_eq_true rfl) (Nat.le_of_ble_eq_true rfl) dN_init_20 (fun q2 H hP hD hS => ?_)
  have hP : va_P D vwCl [(a, .inr (2, [.long 1, .ref q1, .null, .int 0, .int 0])), (q1, .inl (ca 1, 80, .inl (fun _ => 0))), (q2, .inl (ca 0, 7, .inl (fun _ => 0)))] H := hP
  have hD : va_D A [(a, .inr (2, [.long 1, .ref q1, .null, .int 0, .int 0])), (q1, .inl (ca 1, 80, .inl (fun _ => 0))), (q2, .inl (ca 0, 7, .inl (fun _ => 0)))] := hD
  refine va_putF (D := D) (ci := 2) (v := .ref q2) (ty := (.array .int)) (C := RN) (T := TN) (N := 5) hx hb htb inN tyN tyN_ok nmN hown hK hP hD hS 0 rfl rfl 2 (by decide) (htb _ k1_142) (fun _ h9 => h9) rfl hin rfl (by decide +kernel) rfl rfl (Nat.le_of_ble_eq_true rfl) dN_init_22 (fun H locs hP hD hS => ?_)
  have hP : va_P D vwCl [(a, .inr (2, [.long 1, .ref q1, .ref q2, .int 0, .int 0])), (q1, .inl (ca 1, 80, .inl (fun _ => 0))), (q2, .inl (ca 0, 7, .inl (fun _ => 0)))] H := hP
  have hD : va_D A [(a, .inr (2, [.long 1, .ref q1, .ref q2, .int 0, .int 0])), (q1, .inl (ca 1, 80, .inl (fun _ => 0))), (q2, .inl (ca 0, 7, .inl (fun _ => 0)))] := hD
  have key : ∀ (k i : Nat) (f : Nat → Int32) (H : Heap) (locs : List Loc) (ls : Array Slot), i + k = 7 → (∀ v, v < i → f v = (-1)) → va_P D vwCl [(a, .inr (2, [.long 1, .ref q1, .ref q2, .int 0, .int 0])), (q1, .inl (ca 1, 80, .inl (fun _ => 0))), (q2, .inl (ca 0, 7, .inl f))] H → va_D A [(a, .inr (2, [.long 1, .ref q1, .ref q2, .int 0, .int 0])), (q1, .inl (ca 1, 80, .inl (fun _ => 0))), (q2, .inl (ca 0, 7, .inl f))] → va_S A s.heap H locs → lv_has ls 2 [(1, .int (nI i)), (0, .ref a)] → W p l e (headSpec wN_init ({ frames := 1, cells := 2, slots := 87, locals := 12 } : Room)).room s m (([.ref a] : List Value).toArray) below meth c H locs 2 87 (MQ below (cQ D [(a, .inr (2, [.long 0, .null, .null, .int 0, .int 0]))] s.heap.size (fun u => ∃ q1 q2 : Nat, u = [(a, .inr (2, [.long 1, .ref q1, .ref q2, .int 0, .int 0])), (q1, .inl (ca 1, 80, .inl (fun _ => 0))), (q2, .inl (ca 0, 7, .inl (fun _ => -1)))])) (([.ref a] : List Value).toArray) s 2 87 A) (F0 m 27 ls []) := by
    intro k
    induction k with
    | zero =>
      intro i f H locs ls hi hf hP hD hS hl
      have hi : i = 7 := by omega
      subst hi
      refine lv_iload_n hx hb dN_init_27 rfl (lv_at hl 0 rfl) ?_
      refine lv_bipush (v := 7) hx hb dN_init_28 (by decide) ?_
      refine lv_icmp_ge (tgt := 46) hx hb dN_init_30 (by decide) (fun hc => ?_) (fun hc => absurd (nI_le (a := 7) (b := 7) (Nat.le_refl _) (by omega)) hc)
      rw [← hAe] at hD hS ⊢
      have hP : va_P D vwCl [(a, .inr (2, [.long 1, .ref q1, .ref q2, .int 0, .int 0])), (q1, .inl (ca 1, 80, .inl (fun _ => 0))), (q2, .inl (ca 0, 7, .inl (fun _ => -1)))] H := row_P (w := [(a, .inr (2, [.long 1, .ref q1, .ref q2, .int 0, .int 0])), (q1, .inl (ca 1, 80, .inl (fun _ => 0)))]) (g := fun _ => (-1)) (fun v hv => hf v hv) hP
      have hD : va_D _ [(a, .inr (2, [.long 1, .ref q1, .ref q2, .int 0, .int 0])), (q1, .inl (ca 1, 80, .inl (fun _ => 0))), (q2, .inl (ca 0, 7, .inl (fun _ => -1)))] := row_D (w := [(a, .inr (2, [.long 1, .ref q1, .ref q2, .int 0, .int 0])), (q1, .inl (ca 1, 80, .inl (fun _ => 0)))]) hD
      exact W.vret hx hb hr (fun t ht hW => ⟨⟨[(a, .inr (2, [.long 1, .ref q1, .ref q2, .int 0, .int 0])), (q1, .inl (ca 1, 80, .inl (fun _ => 0))), (q2, .inl (ca 0, 7, .inl (fun _ => -1)))], rfl, ⟨q1, q2, rfl⟩, by rw [ht]; exact hP, hD⟩, hS.F ht⟩) hS.2.2 dN_init_46 hlk
    | succ k ih =>
      intro i f H locs ls hi hf hP hD hS hl
      refine lv_iload_n hx hb dN_init_27 rfl (lv_at hl 0 rfl) ?_
      refine lv_bipush (v := 7) hx hb dN_init_28 (by decide) ?_
      refine lv_icmp_ge (tgt := 46) hx hb dN_init_30 (by decide) (fun hc => absurd hc (nI_ge (b := 7) (by omega) (by omega))) (fun hc => ?_)
      refine lv_aload_n hx hb dN_init_33 rfl (lv_at hl 1 rfl) ?_
      refine va_get (D := D) (ci := 2) (v := .ref q2) (C := RN) (T := TN) (N := 5) hx hb htb inN hown hK hP 0 rfl rfl 2 (by decide) (htb _ k1_142) (fun _ h9 => h9) rfl dN_init_34 ?_
      refine lv_iload_n hx hb dN_init_37 rfl (lv_at hl 0 rfl) ?_
      refine lv_iconst (v := (-1)) hx hb dN_init_38 (by decide) ?_
      refine va_iast hx hb hK hP hD hS 2 0 rfl rfl (vp_in_nI (show i < 7 by omega) (by omega)) dN_init_39 (fun H locs hP hD hS => ?_)
      rw [show (nI i).toNatClampNeg = i from nI_clamp (by omega)] at hP hD
      refine lv_iinc (k := 0) (v := nI i + 1) (lv' := [(1, .int (nI i + 1)), (0, .ref a)]) hx hb dN_init_40 hl rfl (by rfl) (by decide) rfl (fun ls hl => ?_)
      rw [nI_1] at hl
      refine lv_goto (tgt := 27) hx hb dN_init_43 (by decide) ?_
      refine ih (i + 1) (upd f i (-1)) H locs ls (by omega) (fun v hv => ?_) hP hD hS hl
      unfold upd
      by_cases e : v = i
      · rw [if_pos e]
      · rw [if_neg e]; exact hf v (by omega)
  refine lv_iconst (v := 0) hx hb dN_init_25 (by decide) ?_
  refine lv_istore_n (lv' := [(1, .int 0), (0, .ref a)]) hx hb dN_init_26 rfl hl (by decide) rfl (fun ls hl => ?_)
  refine W.widen (k := 2) (n := 87) (Nat.le_of_ble_eq_true rfl) (Nat.le_of_ble_eq_true rfl) ?_
  exact key 7 0 (fun _ => 0) H _ ls (by omega) (fun v hv => by omega) hP hD hS hl
set_option maxHeartbeats 4000000 in
set_option maxRecDepth 100000 in
theorem C_B_init (l : Launch) (D : va_G) (ca : Nat → Nat) (a sz : Nat) : Met l yB_init wB_init ({ frames := 2, cells := 5, slots := 25, locals := 45 } : Room) (va_Pc [.ref a] (cPre D ca [(a, .inr (0, [.int 0, .int 0, .int 0, .long 0, .null, .null]))] sz)) (cQ D [(a, .inr (0, [.int 0, .int 0, .int 0, .long 0, .null, .null]))] sz (fun u => ∃ q1 q2 q3 q4 q5 : Nat, u = [(a, .inr (0, [.int (-1), .int 0, .int 0, .long 1, .ref q1, .ref q4])), (q1, .inr (1, [.ref q2, .ref q3, .int 0])), (q2, .inl (ca 0, 4, .inl (fun _ => 0))), (q3, .inl (ca 0, 4, .inl (fun _ => 0))), (q4, .inr (3, [.ref q5, .int 0, .int 0, .int 0, .int 0, .int 0, .int 0])), (q5, .inl (ca 0, 7, .inl (fun _ => 32)))])) 5 25 (va_A [(a, .inr (0, [.int 0, .int 0, .int 0, .long 0, .null, .null]))] sz) := by
  refine Met.ofW (cc := cB_init) (maxL := 1) (ret := none) (by decide) rfl ?_
  intro p e s m args below meth c s₁ B hml hv
  obtain ⟨rfl, hsz, hP, hK, hD0, hN⟩ := hv
  have hx := B.exec
  have hb := B.bytes
  have hr := B.returns
  have htb : ∀ w ∈ wb, w.before _ s = true := fun w h => atoms_spec (ws := wB_init) B.pre w (List.mem_cons_of_mem _ h)
  have hown : s.vm.findClass RB = some m.cls := findClass_of_methodNamed B.named
  have hlk := B.notSynchronized
  have hin : meth.name = "<init>" := (name_of_methodNamed B.named B.method).1
  subst hsz
  have hD := hD0.self (sz := s.heap.size)
  generalize hAe : va_A [(a, .inr (0, [.int 0, .int 0, .int 0, .long 0, .null, .null]))] s.heap.size = A at hD ⊢
  have hA : ∀ q : Nat, s.heap.size ≤ q → A q := fun q h => by rw [← hAe]; exact Or.inr h
  have hS : va_S A s.heap s.heap [] := va_S.rf
  have hl := lv_entry ([.ref a]) (n := 1) (Nat.le_of_ble_eq_true rfl)
  rw [lg_entry_eq]
  generalize (lg_sl ([.ref a]) ++ List.replicate (1 - (lg_sl ([.ref a])).length) Slot.unset).toArray = ls at hl ⊢
  have hl : lv_has ls 1 [(0, .ref a)] := hl
  refine lv_aload_n hx hb dB_init_0 rfl (lv_at hl 0 rfl) ?_
  refine W.objInit hx hb hown (htb _ k1_30) (htb _ k1_16) (htb _ k1_17) rfl (by rw [hml]; exact hl.1) rfl dB_init_1 (Nat.le_of_ble_eq_true rfl) (Nat.le_of_ble_eq_true rfl) ?_
  refine W.eq (g2 := F0 m 4 ls []) rfl ?_
  refine lv_aload_n hx hb dB_init_4 rfl (lv_at hl 0 rfl) ?_
  refine lv_iconst (v := (-1)) hx hb dB_init_5 (by decide) ?_
  refine va_put (D := D) (ci := 0) (v := .int (-1)) (ty := .int) (C := RB) (T := TB) (N := 6) hx hb htb inB tyB tyB_ok nmB hown hK hP hD hS 0 rfl rfl 0 (by decide) (htb _ k1_83) (fun _ h9 => h9) rfl (by decide +kernel) rfl rfl (Nat.le_of_ble_eq_true rfl) dB_init_6 (fun H locs hP hD hS => ?_)
  have hP : va_P D vwCl [(a, .inr (0, [.int (-1), .int 0, .int 0, .long 0, .null, .null]))] H := hP
  have hD : va_D A [(a, .inr (0, [.int (-1), .int 0, .int 0, .long 0, .null, .null]))] := hD
  refine lv_aload_n hx hb dB_init_9 rfl (lv_at hl 0 rfl) ?_
  refine lv_lconst (v := 1) hx hb dB_init_10 (by decide) ?_
  refine va_put (D := D) (ci := 0) (v := .long 1) (ty := .long) (C := RB) (T := TB) (N := 6) hx hb htb inB tyB tyB_ok nmB hown hK hP hD hS 0 rfl rfl 3 (by decide) (htb _ k1_87) (fun _ h9 => h9) rfl (by decide +kernel) rfl rfl (Nat.le_of_ble_eq_true rfl) dB_init_11 (fun H locs hP hD hS => ?_)
  have hP : va_P D vwCl [(a, .inr (0, [.int (-1), .int 0, .int 0, .long 1, .null, .null]))] H := hP
  have hD : va_D A [(a, .inr (0, [.int (-1), .int 0, .int 0, .long 1, .null, .null]))] := hD
  refine lv_aload_n hx hb dB_init_14 rfl (lv_at hl 0 rfl) ?_
  refine va_new (ci := 1) (fs := [.null, .null, .int 0]) (C := RI) (T := TI) (N := 3) hx hb htb inI tyI tyI_ok hown (htb _ k1_31) (htb _ k1_32) (htb _ k1_4) hK hP hD hS hA rfl (fun j hj => by rcases (show j = 0 ∨ j = 1 ∨ j = 2 by omega) with rfl | rfl | rfl <;> rfl) (Nat.le_of_ble_eq_true rfl) (Nat.le_of_ble_eq_true rfl) dB_init_15 (fun q1 H hP hD hS => ?_)
  have hP : va_P D vwCl [(a, .inr (0, [.int (-1), .int 0, .int 0, .long 1, .null, .null])), (q1, .inr (1, [.null, .null, .int 0]))] H := hP
  have hD : va_D A [(a, .inr (0, [.int (-1), .int 0, .int 0, .long 1, .null, .null])), (q1, .inr (1, [.null, .null, .int 0]))] := hD
  refine lv_dup hx hb dB_init_18 rfl ?_
  refine cc_v (w := [(a, .inr (0, [.int (-1), .int 0, .int 0, .long 1, .null, .null]))]) (x := (q1, .inr (1, [.null, .null, .int 0]))) (va_runIN (As := []) (rest := [.ref q1, .ref a]) ⟨hx, hb, hml, hown, htb⟩ (C_I_init l D ca q1 H.size) ⟨va_cnB 0 htb (gd_c k1_35) rfl rfl rfl (nl_1 hN) (htb _ k1_4) (by decide +kernel) ⟨Nat.le_of_ble_eq_true rfl, Nat.le_of_ble_eq_true rfl⟩, rfl, htb _ k1_34⟩ (cPre_S (w := [(a, .inr (0, [.int (-1), .int 0, .int 0, .long 1, .null, .null]))]) (x := (q1, .inr (1, [.null, .null, .int 0]))) hK hP hD hN) rfl rfl hl.1 rfl (lv_room (Nat.le_of_ble_eq_true rfl)) dB_init_19 ⟨(Nat.le_of_ble_eq_true rfl), (Nat.le_of_ble_eq_true rfl)⟩) hP hD hS hA (fun u H locs hu hP hD hS => ?_)
  obtain ⟨q2, q3, rfl⟩ := hu
  have hP : va_P D vwCl [(a, .inr (0, [.int (-1), .int 0, .int 0, .long 1, .null, .null])), (q1, .inr (1, [.ref q2, .ref q3, .int 0])), (q2, .inl (ca 0, 4, .inl (fun _ => 0))), (q3, .inl (ca 0, 4, .inl (fun _ => 0)))] H := hP
  have hD : va_D A [(a, .inr (0, [.int (-1), .int 0, .int 0, .long 1, .null, .null])), (q1, .inr (1, [.ref q2, .ref q3, .int 0])), (q2, .inl (ca 0, 4, .inl (fun _ => 0))), (q3, .inl (ca 0, 4, .inl (fun _ => 0)))] := hD
  refine va_putF (D := D) (ci := 0) (v := .ref q1) (ty := (.object "FinalityTree$Items")) (C := RB) (T := TB) (N := 6) hx hb htb inB tyB tyB_ok nmB hown hK hP hD hS 0 rfl rfl 4 (by decide) (htb _ k1_89) (fun _ h9 => h9) rfl hin rfl (by decide +kernel) rfl rfl (Nat.le_of_ble_eq_true rfl) dB_init_22 (fun H locs hP hD hS => ?_)
  have hP : va_P D vwCl [(a, .inr (0, [.int (-1), .int 0, .int 0, .long 1, .ref q1, .null])), (q1, .inr (1, [.ref q2, .ref q3, .int 0])), (q2, .inl (ca 0, 4, .inl (fun _ => 0))), (q3, .inl (ca 0, 4, .inl (fun _ => 0)))] H := hP
  have hD : va_D A [(a, .inr (0, [.int (-1), .int 0, .int 0, .long 1, .ref q1, .null])), (q1, .inr (1, [.ref q2, .ref q3, .int 0])), (q2, .inl (ca 0, 4, .inl (fun _ => 0))), (q3, .inl (ca 0, 4, .inl (fun _ => 0)))] := hD
  refine lv_aload_n hx hb dB_init_25 rfl (lv_at hl 0 rfl) ?_
  refine va_new (ci := 3) (fs := [.null, .int 0, .int 0, .int 0, .int 0, .int 0, .int 0]) (C := RS) (T := TS) (N := 7) hx hb htb inS tyS tyS_ok hown (htb _ k1_51) (htb _ k1_52) (htb _ k1_5) hK hP hD hS hA rfl (fun j hj => by rcases (show j = 0 ∨ j = 1 ∨ j = 2 ∨ j = 3 ∨ j = 4 ∨ j = 5 ∨ j = 6 by omega) with rfl | rfl | rfl | rfl | rfl | rfl | rfl <;> rfl) (Nat.le_of_ble_eq_true rfl) (Nat.le_of_ble_eq_true rfl) dB_init_26 (fun q4 H hP hD hS => ?_)
  have hP : va_P D vwCl [(a, .inr (0, [.int (-1), .int 0, .int 0, .long 1, .ref q1, .null])), (q1, .inr (1, [.ref q2, .ref q3, .int 0])), (q2, .inl (ca 0, 4, .inl (fun _ => 0))), (q3, .inl (ca 0, 4, .inl (fun _ => 0))), (q4, .inr (3, [.null, .int 0, .int 0, .int 0, .int 0, .int 0, .int 0]))] H := hP
  have hD : va_D A [(a, .inr (0, [.int (-1), .int 0, .int 0, .long 1, .ref q1, .null])), (q1, .inr (1, [.ref q2, .ref q3, .int 0])), (q2, .inl (ca 0, 4, .inl (fun _ => 0))), (q3, .inl (ca 0, 4, .inl (fun _ => 0))), (q4, .inr (3, [.null, .int 0, .int 0, .int 0, .int 0, .int 0, .int 0]))] := hD
  refine lv_dup hx hb dB_init_29 rfl ?_
  refine cc_v (w := [(a, .inr (0, [.int (-1), .int 0, .int 0, .long 1, .ref q1, .null])), (q1, .inr (1, [.ref q2, .ref q3, .int 0])), (q2, .inl (ca 0, 4, .inl (fun _ => 0))), (q3, .inl (ca 0, 4, .inl (fun _ => 0)))]) (x := (q4, .inr (3, [.null, .int 0, .int 0, .int 0, .int 0, .int 0, .int 0]))) (va_runI (As := []) (rest := [.ref q4, .ref a]) ⟨hx, hb, hml, hown, htb⟩ (C_S_init l D ca q4 H.size) (cwI 0 htb (gd_c k1_55) rfl rfl rfl (htb _ k1_5) (htb _ k1_53) (htb _ k1_54) rfl (by decide +kernel) ⟨Nat.le_of_ble_eq_true rfl, Nat.le_of_ble_eq_true rfl⟩) (cPre_S (w := [(a, .inr (0, [.int (-1), .int 0, .int 0, .long 1, .ref q1, .null])), (q1, .inr (1, [.ref q2, .ref q3, .int 0])), (q2, .inl (ca 0, 4, .inl (fun _ => 0))), (q3, .inl (ca 0, 4, .inl (fun _ => 0)))]) (x := (q4, .inr (3, [.null, .int 0, .int 0, .int 0, .int 0, .int 0, .int 0]))) hK hP hD hN) rfl rfl hl.1 rfl (lv_room (Nat.le_of_ble_eq_true rfl)) dB_init_30 ⟨(Nat.le_of_ble_eq_true rfl), (Nat.le_of_ble_eq_true rfl)⟩) hP hD hS hA (fun u H locs hu hP hD hS => ?_)
  obtain ⟨q5, rfl⟩ := hu
  have hP : va_P D vwCl [(a, .inr (0, [.int (-1), .int 0, .int 0, .long 1, .ref q1, .null])), (q1, .inr (1, [.ref q2, .ref q3, .int 0])), (q2, .inl (ca 0, 4, .inl (fun _ => 0))), (q3, .inl (ca 0, 4, .inl (fun _ => 0))), (q4, .inr (3, [.ref q5, .int 0, .int 0, .int 0, .int 0, .int 0, .int 0])), (q5, .inl (ca 0, 7, .inl (fun _ => 32)))] H := hP
  have hD : va_D A [(a, .inr (0, [.int (-1), .int 0, .int 0, .long 1, .ref q1, .null])), (q1, .inr (1, [.ref q2, .ref q3, .int 0])), (q2, .inl (ca 0, 4, .inl (fun _ => 0))), (q3, .inl (ca 0, 4, .inl (fun _ => 0))), (q4, .inr (3, [.ref q5, .int 0, .int 0, .int 0, .int 0, .int 0, .int 0])), (q5, .inl (ca 0, 7, .inl (fun _ => 32)))] := hD
  refine va_putF (D := D) (ci := 0) (v := .ref q4) (ty := (.object "FinalityTree$State")) (C := RB) (T := TB) (N := 6) hx hb htb inB tyB tyB_ok nmB hown hK hP hD hS 0 rfl rfl 5 (by decide) (htb _ k1_91) (fun _ h9 => h9) rfl hin rfl (by decide +kernel) rfl rfl (Nat.le_of_ble_eq_true rfl) dB_init_33 (fun H locs hP hD hS => ?_)
  have hP : va_P D vwCl [(a, .inr (0, [.int (-1), .int 0, .int 0, .long 1, .ref q1, .ref q4])), (q1, .inr (1, [.ref q2, .ref q3, .int 0])), (q2, .inl (ca 0, 4, .inl (fun _ => 0))), (q3, .inl (ca 0, 4, .inl (fun _ => 0))), (q4, .inr (3, [.ref q5, .int 0, .int 0, .int 0, .int 0, .int 0, .int 0])), (q5, .inl (ca 0, 7, .inl (fun _ => 32)))] H := hP
  have hD : va_D A [(a, .inr (0, [.int (-1), .int 0, .int 0, .long 1, .ref q1, .ref q4])), (q1, .inr (1, [.ref q2, .ref q3, .int 0])), (q2, .inl (ca 0, 4, .inl (fun _ => 0))), (q3, .inl (ca 0, 4, .inl (fun _ => 0))), (q4, .inr (3, [.ref q5, .int 0, .int 0, .int 0, .int 0, .int 0, .int 0])), (q5, .inl (ca 0, 7, .inl (fun _ => 32)))] := hD
  refine W.widen (k := 5) (n := 25) (Nat.le_of_ble_eq_true rfl) (Nat.le_of_ble_eq_true rfl) ?_
  rw [← hAe] at hD hS ⊢
  exact W.vret hx hb hr (fun t ht hW => ⟨⟨[(a, .inr (0, [.int (-1), .int 0, .int 0, .long 1, .ref q1, .ref q4])), (q1, .inr (1, [.ref q2, .ref q3, .int 0])), (q2, .inl (ca 0, 4, .inl (fun _ => 0))), (q3, .inl (ca 0, 4, .inl (fun _ => 0))), (q4, .inr (3, [.ref q5, .int 0, .int 0, .int 0, .int 0, .int 0, .int 0])), (q5, .inl (ca 0, 7, .inl (fun _ => 32)))], rfl, ⟨q1, q2, q3, q4, q5, rfl⟩, by rw [ht]; exact hP, hD⟩, hS.F ht⟩) hS.2.2 dB_init_36 hlk
