theorem cPreF_S {s : State} {H : Heap} {D : va_G} {ca : Nat → Nat} {w : va_W} {x : Nat × va_E} {A : Nat → Prop} {av : List Value} (hK : va_K D vwCl (xty ca) s) (hP : va_P D vwCl (w ++ [x]) H) (hD : va_D A (w ++ [x])) (hN : mNW nL s) (h1 : va_AO "FinalityTree$Block" s) (h2 : va_AO "FinalityTree$Vote" s) (h3 : va_AO "FinalityTree$Node" s) : PreS s H (va_Pc av (cPreF D ca [x] H.size)) av := by
  have h0 := cPre_S (av := av) hK hP hD hN
  refine ⟨fun a U g mk' q => ?_, fun U hU hW => ?_⟩
  · obtain ⟨q0, q1, q2, q3, q4⟩ := q
    have hv : U.vm.Alike (U.calling g mk' a).vm := Vm.Alike.refl U.vm
    exact ⟨q0, (h0.1 a U g mk' ⟨q0, q1⟩).2, va_AO.moved hv q2, va_AO.moved hv q3, va_AO.moved hv q4⟩
  · have := h0.2 U hU hW
    exact ⟨this.1, this.2, va_AO.moved hW.alike h1, va_AO.moved hW.alike h2, va_AO.moved hW.alike h3⟩
theorem lw_cell {p : Program} {l : Launch} {e : Env} {s : State} {m : MethodId} {below : List Frame} {meth : Method} {c : Code} {H : Heap} {locs : List Loc} {cells slots : Nat} {Q : State → Prop} {pc : Nat} {ls : Array Slot} {rest : List Value} {b L : Nat} {xs : Nat → Int32} {D : va_G} {A : Nat → Prop} {w : va_W} (hL : L ≤ 2051) (hx : p.tables.exec = Jvm.exec) (hb : c.code = code) (hml : c.maxLocals = 4) (hown : s.vm.findClass R_law = some m.cls) (htb : ∀ w ∈ wb, w.before #[Value.ref b] s = true) (hX : va_X b L xs s s.heap) (hbl : b < s.heap.size) (hbA : ¬ A b) (hP : va_P D vwCl w H) (hS : va_S A s.heap H locs) (hsz : ls.size = 4) (hroom : 2 * 0 + (rest.map fun v => v.category).sum ≤ 8) (k : Nat) (hk : k < 2051) (hdg : decode code pc = .ok (.invokestatic 9, 3)) (hce : cells + 0 ≤ room_1.cells ∧ slots + 0 ≤ room_1.slots)
    (kk : ∀ (H1 : Heap) (locs1 : List Loc), va_P D vwCl w H1 → va_S A s.heap H1 locs1 → W p l e room_1 s m #[Value.ref b] below meth c H1 locs1 cells slots Q (F0 m (pc + 3) ls (.int (cV L xs k) :: rest))) : W p l e room_1 s m #[Value.ref b] below meth c H locs cells slots Q (F0 m pc ls (.int (nI k) :: .ref b :: rest)) := by
  refine va_calli (va_runS (As := [.ref b, .int (nI k)]) (rest := rest) ⟨hx, hb, hml, hown, htb⟩ (C_L_cell l b L xs hL k hk) (va_cwS 2 htb (gd_s k2_163 k2_164 k1_0 k2_165) rfl rfl rfl (by decide +kernel) ⟨Nat.le_of_ble_eq_true rfl, Nat.le_of_ble_eq_true rfl⟩) ⟨fun a U g mk' q => ⟨q.1, va_X.moved (u := U) (U := U.calling g mk' a) (Vm.Alike.refl U.vm) q.2⟩, fun U hU hW => ⟨rfl, va_X.moved hW.alike (hX.kept (by rw [hU]; exact hS.2.1 b hbl hbA))⟩⟩ rfl rfl hsz rfl hroom hdg hce) hS (fun q _ h => h.elim) (fun q h => h.elim) (fun r u t H1 locs1 ht _ hp _ hz hk2 hS1 => ?_)
  have hp : r = cV L xs k := hp
  subst hp
  exact kk H1 locs1 (hP.kept (fun j q hq => hk2 q.1 (hP j q hq).lt (fun h => h))) hS1
set_option maxHeartbeats 8000000 in
set_option maxRecDepth 100000 in
theorem whole_start {p : Program} {e : Env} {s : State} {m : MethodId} {below : List Frame} {meth : Method} {c : Code} (l : Launch) {b L : Nat} {xs : Nat → Int32} (hL : L ≤ 2051) (C0 : lw_At p s m meth c b L xs) : W p l e room_1 s m #[Value.ref b] below meth c s.heap [] 0 0 (lw_Z below #[Value.ref b] s) (entryFrame m ([Value.ref b] : List Value).toArray 4) := by
  obtain ⟨hx, hb, hr, hml, hown, hts, hX, hbl, hlk, -⟩ := C0
  have htb : ∀ w ∈ wb, w.before #[Value.ref b] s = true := fun w h => hts w (wb_tbl w h)
  have hAB := law_AB hts
  have hAV := law_AV hts
  have hAN := law_AN hts
  have hN := law_N hts
  obtain ⟨D, ca, hK⟩ := law_K htb hAB hAV hAN
  obtain ⟨A, hAe⟩ : ∃ A : Nat → Prop, A = fun q => s.heap.size ≤ q := ⟨_, rfl⟩
  have hA : ∀ q, s.heap.size ≤ q → A q := fun q h => by rw [hAe]; exact h
  have hbA : ¬ A b := fun h => by rw [hAe] at h; exact absurd hbl (Nat.not_lt.mpr h)
  have hS : va_S A s.heap s.heap [] := va_S.rf
  have hP : va_P D vwCl [] s.heap := fun k q h => by simp at h
  have hD : va_D A [] := ⟨fun i j p q h => by simp at h, fun k q h => by simp at h⟩
  have hl := lv_entry ([.ref b]) (n := 4) (Nat.le_of_ble_eq_true rfl)
  rw [lg_entry_eq]
  generalize (lg_sl ([.ref b]) ++ List.replicate (4 - (lg_sl ([.ref b])).length) Slot.unset).toArray = ls at hl ⊢
  have hl : lv_has ls 4 [(0, .ref b)] := hl
  refine va_new (ci := 5) (fs := [.int 0, .int 0, .null, .int 0, .null, .int 0, .null, .int 0, .null, .null, .null]) (C := RF) (T := TF) (N := 11) hx hb htb inF tyF tyF_ok hown (htb _ k1_10) (htb _ k1_11) (htb _ k1_1) hK hP hD hS hA rfl (fun j hj => by rcases (show j = 0 ∨ j = 1 ∨ j = 2 ∨ j = 3 ∨ j = 4 ∨ j = 5 ∨ j = 6 ∨ j = 7 ∨ j = 8 ∨ j = 9 ∨ j = 10 by omega) with rfl | rfl | rfl | rfl | rfl | rfl | rfl | rfl | rfl | rfl | rfl <;> rfl) (Nat.le_of_ble_eq_true rfl) (Nat.le_of_ble_eq_true rfl) dW_0 (fun a H hP hD hS => ?_)
  refine lv_dup hx hb dW_3 rfl ?_
  refine lv_aload_n hx hb dW_4 rfl (lv_at hl 0 rfl) ?_
  refine lv_iconst (v := 0) hx hb dW_5 (by decide) ?_
  refine lw_cell (rest := [.ref a, .ref a]) hL hx hb hml hown htb hX hbl hbA hP hS hl.1 (Nat.le_of_ble_eq_true rfl) 0 (by omega) dW_6 ⟨Nat.le_of_ble_eq_true rfl, Nat.le_of_ble_eq_true rfl⟩ (fun H locs hP hS => ?_)
  refine lv_aload_n hx hb dW_9 rfl (lv_at hl 0 rfl) ?_
  refine lv_iconst (v := 1) hx hb dW_10 (by decide) ?_
  refine lw_cell (rest := [.int (cV L xs 0), .ref a, .ref a]) hL hx hb hml hown htb hX hbl hbA hP hS hl.1 (Nat.le_of_ble_eq_true rfl) 1 (by omega) dW_11 ⟨Nat.le_of_ble_eq_true rfl, Nat.le_of_ble_eq_true rfl⟩ (fun H locs hP hS => ?_)
  refine lv_aload_n hx hb dW_14 rfl (lv_at hl 0 rfl) ?_
  refine lv_iconst (v := 2) hx hb dW_15 (by decide) ?_
  refine lw_cell (rest := [.int (cV L xs 1), .int (cV L xs 0), .ref a, .ref a]) hL hx hb hml hown htb hX hbl hbA hP hS hl.1 (Nat.le_of_ble_eq_true rfl) 2 (by omega) dW_16 ⟨Nat.le_of_ble_eq_true rfl, Nat.le_of_ble_eq_true rfl⟩ (fun H locs hP hS => ?_)
  refine cc_v (w := []) (x := (a, .inr (5, [.int 0, .int 0, .null, .int 0, .null, .int 0, .null, .int 0, .null, .null, .null]))) (va_runI (As := [.int (cV L xs 0), .int (cV L xs 1), .int (cV L xs 2)]) (rest := [.ref a]) ⟨hx, hb, hml, hown, htb⟩ (C_F_init l D ca a H.size (cV L xs 0) (cV L xs 1) (cV L xs 2)) (cwI 3 htb (gd_c k1_14) rfl rfl rfl (htb _ k1_1) (htb _ k1_12) (htb _ k1_13) rfl (by decide +kernel) ⟨Nat.le_of_ble_eq_true rfl, Nat.le_of_ble_eq_true rfl⟩) (cPreF_S (w := []) (x := (a, .inr (5, [.int 0, .int 0, .null, .int 0, .null, .int 0, .null, .int 0, .null, .null, .null]))) hK hP hD hN hAB hAV hAN) rfl rfl hl.1 rfl (lv_room (Nat.le_of_ble_eq_true rfl)) dW_19 ⟨Nat.le_of_ble_eq_true rfl, Nat.le_of_ble_eq_true rfl⟩) hP hD hS hA (fun u H locs hu hP hD hS => ?_)
  obtain ⟨ad, had, rfl⟩ := hu
  refine lv_astore_n (lv' := [(1, .ref a), (0, .ref b)]) hx hb dW_22 rfl hl (by decide) rfl (fun ls hl => ?_)
  rw [List.nil_append] at hP hD
  refine va_new (ci := 6) (fs := [.int 0, .int 0, .null, .int 0, .int 0, .null, .null, .null, .null, .int 0, .null, .int 0, .null, .null, .null, .null, .null, .null, .null, .null, .null, .null, .null, .int 0, .null, .null, .null, .null, .int 0, .int 0, .int 0, .int 0, .null]) (C := RM) (T := TM) (N := 33) hx hb htb inM tyM tyM_ok hown (htb _ k2_166) (htb _ k2_167) (htb _ k1_8) hK hP hD hS hA rfl (fun j hj => by rcases (show j = 0 ∨ j = 1 ∨ j = 2 ∨ j = 3 ∨ j = 4 ∨ j = 5 ∨ j = 6 ∨ j = 7 ∨ j = 8 ∨ j = 9 ∨ j = 10 ∨ j = 11 ∨ j = 12 ∨ j = 13 ∨ j = 14 ∨ j = 15 ∨ j = 16 ∨ j = 17 ∨ j = 18 ∨ j = 19 ∨ j = 20 ∨ j = 21 ∨ j = 22 ∨ j = 23 ∨ j = 24 ∨ j = 25 ∨ j = 26 ∨ j = 27 ∨ j = 28 ∨ j = 29 ∨ j = 30 ∨ j = 31 ∨ j = 32 by omega) with rfl | rfl | rfl | rfl | rfl | rfl | rfl | rfl | rfl | rfl | rfl | rfl | rfl | rfl | rfl | rfl | rfl | rfl | rfl | rfl | rfl | rfl | rfl | rfl | rfl | rfl | rfl | rfl | rfl | rfl | rfl | rfl | rfl <;> rfl) (Nat.le_of_ble_eq_true rfl) (Nat.le_of_ble_eq_true rfl) dW_23 (fun a2 H hP hD hS => ?_)
  refine lv_dup hx hb dW_26 rfl ?_
  refine lv_aload_n hx hb dW_27 rfl (lv_at hl 1 rfl) ?_
  refine lv_iconst (v := 0) hx hb dW_28 (by decide) ?_
  refine lw_cell (rest := [.ref a2, .ref a2]) hL hx hb hml hown htb hX hbl hbA hP hS hl.1 (Nat.le_of_ble_eq_true rfl) 0 (by omega) dW_29 ⟨Nat.le_of_ble_eq_true rfl, Nat.le_of_ble_eq_true rfl⟩ (fun H locs hP hS => ?_)
  refine lv_aload_n hx hb dW_32 rfl (lv_at hl 1 rfl) ?_
  refine lv_iconst (v := 1) hx hb dW_33 (by decide) ?_
  refine lw_cell (rest := [.int (cV L xs 0), .ref a2, .ref a2]) hL hx hb hml hown htb hX hbl hbA hP hS hl.1 (Nat.le_of_ble_eq_true rfl) 1 (by omega) dW_34 ⟨Nat.le_of_ble_eq_true rfl, Nat.le_of_ble_eq_true rfl⟩ (fun H locs hP hS => ?_)
  refine lv_aload_n hx hb dW_37 rfl (lv_at hl 1 rfl) ?_
  refine lv_iconst (v := 2) hx hb dW_38 (by decide) ?_
  refine lw_cell (rest := [.int (cV L xs 1), .int (cV L xs 0), .ref a2, .ref a2]) hL hx hb hml hown htb hX hbl hbA hP hS hl.1 (Nat.le_of_ble_eq_true rfl) 2 (by omega) dW_39 ⟨Nat.le_of_ble_eq_true rfl, Nat.le_of_ble_eq_true rfl⟩ (fun H locs hP hS => ?_)
  refine cc_v (w := (mw 459 ad (xmk ca ad) (xI0 (cl3 (cV L xs 0)) (cl2 (cV L xs 2)) (cV L xs 1)) xJ0)) (x := (a2, .inr (6, [.int 0, .int 0, .null, .int 0, .int 0, .null, .null, .null, .null, .int 0, .null, .int 0, .null, .null, .null, .null, .null, .null, .null, .null, .null, .null, .null, .int 0, .null, .null, .null, .null, .int 0, .int 0, .int 0, .int 0, .null]))) (va_runI (As := [.int (cV L xs 0), .int (cV L xs 1), .int (cV L xs 2)]) (rest := [.ref a2]) ⟨hx, hb, hml, hown, htb⟩ (C_M_init l D ca a2 H.size (cV L xs 0) (cV L xs 1) (cV L xs 2)) (cwI 3 htb (gd_c k2_170) rfl rfl rfl (htb _ k1_8) (htb _ k2_168) (htb _ k2_169) rfl (by decide +kernel) ⟨Nat.le_of_ble_eq_true rfl, Nat.le_of_ble_eq_true rfl⟩) (cPre_S (w := mw 459 ad (xmk ca ad) (xI0 (cl3 (cV L xs 0)) (cl2 (cV L xs 2)) (cV L xs 1)) xJ0) (x := (a2, .inr (6, [.int 0, .int 0, .null, .int 0, .int 0, .null, .null, .null, .null, .int 0, .null, .int 0, .null, .null, .null, .null, .null, .null, .null, .null, .null, .null, .null, .int 0, .null, .null, .null, .null, .int 0, .int 0, .int 0, .int 0, .null]))) hK hP hD hN) rfl rfl hl.1 rfl (lv_room (Nat.le_of_ble_eq_true rfl)) dW_42 ⟨Nat.le_of_ble_eq_true rfl, Nat.le_of_ble_eq_true rfl⟩) hP hD hS hA (fun u H locs hu hP hD hS => ?_)
  obtain ⟨bd, I2, J2, hbd, hRY, rfl⟩ := hu
  refine lv_astore_n (lv' := [(2, .ref a2), (1, .ref a), (0, .ref b)]) hx hb dW_45 rfl hl (by decide) rfl (fun ls hl => ?_)
  refine lv_iconst (v := 3) hx hb dW_46 (by decide) ?_
  refine lv_istore_n (lv' := [(3, .int 3), (2, .ref a2), (1, .ref a), (0, .ref b)]) hx hb dW_47 rfl hl (by decide) rfl (fun ls hl => ?_)
  rw [← had, ← hbd] at hl
  refine W.widen (k := 482) (n := 4266) (Nat.le_of_ble_eq_true rfl) (Nat.le_of_ble_eq_true rfl) ?_
  obtain ⟨n, n3, n7, en⟩ := cl3_n (cV L xs 0)
  obtain ⟨k, k2, k5, ek⟩ := cl2_n (cV L xs 2)
  have hXR := s0_XR (a := cV L xs 1) n3 n7 en k2 k5 ek
  have hdis : ∀ i j, i < 459 → j < 23 → ad i ≠ bd j := fun i j hi hj hij => by
    have e1 : (mw 459 ad (xmk ca ad) (xI0 (cl3 (cV L xs 0)) (cl2 (cV L xs 2)) (cV L xs 1)) xJ0 ++ mw 23 bd (ymk ca bd) I2 J2)[i]? = some (ad i, _) := (List.getElem?_append_left (by rw [mw_len]; exact hi)).trans (mw_get hi)
    have e2 : (mw 459 ad (xmk ca ad) (xI0 (cl3 (cV L xs 0)) (cl2 (cV L xs 2)) (cV L xs 1)) xJ0 ++ mw 23 bd (ymk ca bd) I2 J2)[459 + j]? = some (bd j, _) := (List.getElem?_append_right (by rw [mw_len]; omega)).trans (by rw [mw_len, show 459 + j - 459 = j from by omega]; exact mw_get hj)
    have := hD.1 i (459 + j) _ _ e1 e2 hij
    omega
  exact lw_loop l hL hx hb hr hml hown htb hX hbl hlk hK hN hAe (va_D_l hD) (va_D_r hD) hdis L 3 _ _ _ _ _ H locs ls (by omega) (by omega) hXR ⟨hXR.1, hRY⟩ (va_P_l hP) (va_P_r hP) hS hl
