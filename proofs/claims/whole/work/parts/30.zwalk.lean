def cPreF (D : va_G) (ca : Nat → Nat) (ws : va_W) (sz : Nat) (U : State) : Prop := cPre D ca ws sz U ∧ va_AO "FinalityTree$Block" U ∧ va_AO "FinalityTree$Vote" U ∧ va_AO "FinalityTree$Node" U
set_option maxHeartbeats 4000000 in
set_option maxRecDepth 100000 in
theorem C_F_init (l : Launch) (D : va_G) (ca : Nat → Nat) (a sz : Nat) (a1 : Int32) (a2 : Int32) (a3 : Int32)  : Met l yF_init wF_init ({ frames := 3, cells := 458, slots := 2711, locals := 65 } : Room) (va_Pc [.ref a, .int a1, .int a2, .int a3] (cPreF D ca [(a, .inr (5, [.int 0, .int 0, .null, .int 0, .null, .int 0, .null, .int 0, .null, .null, .null]))] sz)) (cQ D [(a, .inr (5, [.int 0, .int 0, .null, .int 0, .null, .int 0, .null, .int 0, .null, .null, .null]))] sz (fun u => ∃ ad : Nat → Nat, ad 0 = a ∧ u = mw 459 ad (xmk ca ad) (xI0 (cl3 a1) (cl2 a3) a2) xJ0)) 458 2711 (va_A [(a, .inr (5, [.int 0, .int 0, .null, .int 0, .null, .int 0, .null, .int 0, .null, .null, .null]))] sz) := by
  refine Met.ofW (cc := cF_init) (maxL := 6) (ret := none) (by decide) rfl ?_
  intro p e s m args below meth c s₁ B hml hv
  obtain ⟨rfl, ⟨hsz, hP, hK, hD0, hN⟩, hAB, hAV, hAN⟩ := hv
  have hx := B.exec
  have hb := B.bytes
  have hr := B.returns
  have htb : ∀ w ∈ wb, w.before _ s = true := fun w h => atoms_spec (ws := wF_init) B.pre w (List.mem_cons_of_mem _ h)
  have hown : s.vm.findClass RF = some m.cls := findClass_of_methodNamed B.named
  have hlk := B.notSynchronized
  have hin : meth.name = "<init>" := (name_of_methodNamed B.named B.method).1
  subst hsz
  have hD := hD0.self (sz := s.heap.size)
  generalize hAe : va_A [(a, .inr (5, [.int 0, .int 0, .null, .int 0, .null, .int 0, .null, .int 0, .null, .null, .null]))] s.heap.size = A at hD ⊢
  have hA : ∀ q : Nat, s.heap.size ≤ q → A q := fun q h => by rw [← hAe]; exact Or.inr h
  have hS : va_S A s.heap s.heap [] := va_S.rf
  have hl := lv_entry ([.ref a, .int a1, .int a2, .int a3]) (n := 6) (Nat.le_of_ble_eq_true rfl)
  rw [lg_entry_eq]
  generalize (lg_sl ([.ref a, .int a1, .int a2, .int a3]) ++ List.replicate (6 - (lg_sl ([.ref a, .int a1, .int a2, .int a3])).length) Slot.unset).toArray = ls at hl ⊢
  have hl : lv_has ls 6 [(0, .ref a), (1, .int a1), (2, .int a2), (3, .int a3)] := hl
  have e211 : ∀ (q1 q2 q3 q4 : Nat) (ad : Nat → Nat) (H : Heap) (locs : List Loc) (ls : Array Slot), ad 0 = a → ad 1 = q1 → ad 2 = q2 → ad 363 = q3 → ad 444 = q4 → va_P D vwCl (gw (454) (fT ca ad (xI0 (cl3 a1) (cl2 a3) a2) xJ0 [.int (cl3 a1), .int (cl2 a3), .ref q1, .int (tE a2 (cN (cl3 a1))), .ref q2, .int 0, .ref q3, .int 0, .ref q4, .null, .null] 60 80 3)) H → va_D A (gw (454) (fT ca ad (xI0 (cl3 a1) (cl2 a3) a2) xJ0 [.int (cl3 a1), .int (cl2 a3), .ref q1, .int (tE a2 (cN (cl3 a1))), .ref q2, .int 0, .ref q3, .int 0, .ref q4, .null, .null] 60 80 3)) → va_S A s.heap H locs → lv_has ls 6 [(0, .ref a)] → W p l e (headSpec wF_init ({ frames := 3, cells := 458, slots := 2711, locals := 65 } : Room)).room s m (([.ref a, .int a1, .int a2, .int a3] : List Value).toArray) below meth c H locs (453) (2686) (MQ below (cQ D [(a, .inr (5, [.int 0, .int 0, .null, .int 0, .null, .int 0, .null, .int 0, .null, .null, .null]))] s.heap.size (fun u => ∃ ad : Nat → Nat, ad 0 = a ∧ u = mw 459 ad (xmk ca ad) (xI0 (cl3 a1) (cl2 a3) a2) xJ0)) (([.ref a, .int a1, .int a2, .int a3] : List Value).toArray) s 458 2711 A) (F0 m 211 ls []) := by
    intro q1 q2 q3 q4 ad H locs ls h0 h1 h2 h3 h4 hP hD hS hl
    refine lv_aload_n hx hb dF_init_211 rfl (lv_at hl 0 rfl) ?_
    refine va_new (ci := 1) (fs := [.null, .null, .int 0]) (C := RI) (T := TI) (N := 3) hx hb htb inI tyI tyI_ok hown (htb _ k1_158) (htb _ k1_32) (htb _ k1_4) hK hP hD hS hA rfl (fun j hj => by rcases (show j = 0 ∨ j = 1 ∨ j = 2 by omega) with rfl | rfl | rfl <;> rfl) (Nat.le_of_ble_eq_true rfl) (Nat.le_of_ble_eq_true rfl) dF_init_212 (fun p0 H hP hD hS => ?_)
    refine lv_dup hx hb dF_init_215 rfl ?_
    refine cc_v (w := gw (454) (fT ca ad (xI0 (cl3 a1) (cl2 a3) a2) xJ0 [.int (cl3 a1), .int (cl2 a3), .ref q1, .int (tE a2 (cN (cl3 a1))), .ref q2, .int 0, .ref q3, .int 0, .ref q4, .null, .null] 60 80 3)) (x := (p0, .inr (1, [.null, .null, .int 0]))) (va_runIN (As := []) (rest := [.ref p0, .ref a]) ⟨hx, hb, hml, hown, htb⟩ (C_I_init l D ca p0 H.size) ⟨va_cnB 0 htb (gd_c k1_35) rfl rfl rfl (nl_3 hN) (htb _ k1_4) (by decide +kernel) ⟨Nat.le_of_ble_eq_true rfl, Nat.le_of_ble_eq_true rfl⟩, rfl, htb _ k1_34⟩ (cPre_S (w := gw (454) (fT ca ad (xI0 (cl3 a1) (cl2 a3) a2) xJ0 [.int (cl3 a1), .int (cl2 a3), .ref q1, .int (tE a2 (cN (cl3 a1))), .ref q2, .int 0, .ref q3, .int 0, .ref q4, .null, .null] 60 80 3)) (x := (p0, .inr (1, [.null, .null, .int 0]))) hK hP hD hN) rfl rfl hl.1 rfl (lv_room (Nat.le_of_ble_eq_true rfl)) dF_init_216 ⟨(Nat.le_of_ble_eq_true rfl), (Nat.le_of_ble_eq_true rfl)⟩) hP hD hS hA (fun u H locs hu hP hD hS => ?_)
    obtain ⟨p1, p2, rfl⟩ := hu
    rw [st_i p0 p1 p2] at hP hD
    obtain ⟨ae, hae⟩ : ∃ f : Nat → Nat, f = (adx ad 454 [p0, p1, p2]) := ⟨_, rfl⟩
    rw [← hae] at hP hD
    have h5 : ae 454 = p0 := by rw [hae]; exact adx_r ad 454 [p0, p1, p2] 0
    have h0 : ae 0 = a := by rw [hae, adx_l (by omega)]; exact h0
    have h1 : ae 1 = q1 := by rw [hae, adx_l (by omega)]; exact h1
    have h2 : ae 2 = q2 := by rw [hae, adx_l (by omega)]; exact h2
    have h3 : ae 363 = q3 := by rw [hae, adx_l (by omega)]; exact h3
    have h4 : ae 444 = q4 := by rw [hae, adx_l (by omega)]; exact h4
    have hP : va_P D vwCl (gw (457) (fT ca ae (xI0 (cl3 a1) (cl2 a3) a2) xJ0 [.int (cl3 a1), .int (cl2 a3), .ref q1, .int (tE a2 (cN (cl3 a1))), .ref q2, .int 0, .ref q3, .int 0, .ref q4, .null, .null] 60 80 3)) H := hP
    have hD : va_D A (gw (457) (fT ca ae (xI0 (cl3 a1) (cl2 a3) a2) xJ0 [.int (cl3 a1), .int (cl2 a3), .ref q1, .int (tE a2 (cN (cl3 a1))), .ref q2, .int 0, .ref q3, .int 0, .ref q4, .null, .null] 60 80 3)) := hD
    refine va_putF (D := D) (ci := 5) (v := .ref p0) (ty := (.object "FinalityTree$Items")) (C := RF) (T := TF) (N := 11) hx hb htb inF tyF tyF_ok nmF hown hK hP hD hS 0 (by rw [gw_get (by omega), fT_0, h0]) rfl 9 (by decide) (htb _ k1_171) (fun _ h9 => h9) rfl hin rfl (by decide +kernel) rfl rfl (Nat.le_of_ble_eq_true rfl) dF_init_219 (fun H locs hP hD hS => ?_)
    have e0 : (gw (457) (fT ca ae (xI0 (cl3 a1) (cl2 a3) a2) xJ0 [.int (cl3 a1), .int (cl2 a3), .ref q1, .int (tE a2 (cN (cl3 a1))), .ref q2, .int 0, .ref q3, .int 0, .ref q4, .null, .null] 60 80 3)).set 0 (a, .inr (5, [.int (cl3 a1), .int (cl2 a3), .ref q1, .int (tE a2 (cN (cl3 a1))), .ref q2, .int 0, .ref q3, .int 0, .ref q4, .ref p0, .null])) = gw (457) (fT ca ae (xI0 (cl3 a1) (cl2 a3) a2) xJ0 [.int (cl3 a1), .int (cl2 a3), .ref q1, .int (tE a2 (cN (cl3 a1))), .ref q2, .int 0, .ref q3, .int 0, .ref q4, .ref p0, .null] 60 80 3) := by rw [← h0]; exact set_0 (by omega)
    have hP : va_P D vwCl (gw (457) (fT ca ae (xI0 (cl3 a1) (cl2 a3) a2) xJ0 [.int (cl3 a1), .int (cl2 a3), .ref q1, .int (tE a2 (cN (cl3 a1))), .ref q2, .int 0, .ref q3, .int 0, .ref q4, .ref p0, .null] 60 80 3)) H := by rw [← e0]; exact hP
    have hD : va_D A (gw (457) (fT ca ae (xI0 (cl3 a1) (cl2 a3) a2) xJ0 [.int (cl3 a1), .int (cl2 a3), .ref q1, .int (tE a2 (cN (cl3 a1))), .ref q2, .int 0, .ref q3, .int 0, .ref q4, .ref p0, .null] 60 80 3)) := by rw [← e0]; exact hD
    refine lv_aload_n hx hb dF_init_222 rfl (lv_at hl 0 rfl) ?_
    refine va_new (ci := 3) (fs := [.null, .int 0, .int 0, .int 0, .int 0, .int 0, .int 0]) (C := RS) (T := TS) (N := 7) hx hb htb inS tyS tyS_ok hown (htb _ k1_160) (htb _ k1_52) (htb _ k1_5) hK hP hD hS hA rfl (fun j hj => by rcases (show j = 0 ∨ j = 1 ∨ j = 2 ∨ j = 3 ∨ j = 4 ∨ j = 5 ∨ j = 6 by omega) with rfl | rfl | rfl | rfl | rfl | rfl | rfl <;> rfl) (Nat.le_of_ble_eq_true rfl) (Nat.le_of_ble_eq_true rfl) dF_init_223 (fun d0 H hP hD hS => ?_)
    refine lv_dup hx hb dF_init_226 rfl ?_
    refine cc_v (w := gw (457) (fT ca ae (xI0 (cl3 a1) (cl2 a3) a2) xJ0 [.int (cl3 a1), .int (cl2 a3), .ref q1, .int (tE a2 (cN (cl3 a1))), .ref q2, .int 0, .ref q3, .int 0, .ref q4, .ref p0, .null] 60 80 3)) (x := (d0, .inr (3, [.null, .int 0, .int 0, .int 0, .int 0, .int 0, .int 0]))) (va_runI (As := []) (rest := [.ref d0, .ref a]) ⟨hx, hb, hml, hown, htb⟩ (C_S_init l D ca d0 H.size) (cwI 0 htb (gd_c k1_55) rfl rfl rfl (htb _ k1_5) (htb _ k1_161) (htb _ k1_54) rfl (by decide +kernel) ⟨Nat.le_of_ble_eq_true rfl, Nat.le_of_ble_eq_true rfl⟩) (cPre_S (w := gw (457) (fT ca ae (xI0 (cl3 a1) (cl2 a3) a2) xJ0 [.int (cl3 a1), .int (cl2 a3), .ref q1, .int (tE a2 (cN (cl3 a1))), .ref q2, .int 0, .ref q3, .int 0, .ref q4, .ref p0, .null] 60 80 3)) (x := (d0, .inr (3, [.null, .int 0, .int 0, .int 0, .int 0, .int 0, .int 0]))) hK hP hD hN) rfl rfl hl.1 rfl (lv_room (Nat.le_of_ble_eq_true rfl)) dF_init_227 ⟨(Nat.le_of_ble_eq_true rfl), (Nat.le_of_ble_eq_true rfl)⟩) hP hD hS hA (fun u H locs hu hP hD hS => ?_)
    obtain ⟨d1, rfl⟩ := hu
    rw [st_s d0 d1] at hP hD
    obtain ⟨af, haf⟩ : ∃ f : Nat → Nat, f = (adx ae 457 [d0, d1]) := ⟨_, rfl⟩
    rw [← haf] at hP hD
    have h6 : af 457 = d0 := by rw [haf]; exact adx_r ae 457 [d0, d1] 0
    have h0 : af 0 = a := by rw [haf, adx_l (by omega)]; exact h0
    have h1 : af 1 = q1 := by rw [haf, adx_l (by omega)]; exact h1
    have h2 : af 2 = q2 := by rw [haf, adx_l (by omega)]; exact h2
    have h3 : af 363 = q3 := by rw [haf, adx_l (by omega)]; exact h3
    have h4 : af 444 = q4 := by rw [haf, adx_l (by omega)]; exact h4
    have h5 : af 454 = p0 := by rw [haf, adx_l (by omega)]; exact h5
    have hP : va_P D vwCl (gw (459) (fT ca af (xI0 (cl3 a1) (cl2 a3) a2) xJ0 [.int (cl3 a1), .int (cl2 a3), .ref q1, .int (tE a2 (cN (cl3 a1))), .ref q2, .int 0, .ref q3, .int 0, .ref q4, .ref p0, .null] 60 80 3)) H := hP
    have hD : va_D A (gw (459) (fT ca af (xI0 (cl3 a1) (cl2 a3) a2) xJ0 [.int (cl3 a1), .int (cl2 a3), .ref q1, .int (tE a2 (cN (cl3 a1))), .ref q2, .int 0, .ref q3, .int 0, .ref q4, .ref p0, .null] 60 80 3)) := hD
    refine va_putF (D := D) (ci := 5) (v := .ref d0) (ty := (.object "FinalityTree$State")) (C := RF) (T := TF) (N := 11) hx hb htb inF tyF tyF_ok nmF hown hK hP hD hS 0 (by rw [gw_get (by omega), fT_0, h0]) rfl 10 (by decide) (htb _ k1_172) (fun _ h9 => h9) rfl hin rfl (by decide +kernel) rfl rfl (Nat.le_of_ble_eq_true rfl) dF_init_230 (fun H locs hP hD hS => ?_)
    have e0 : (gw (459) (fT ca af (xI0 (cl3 a1) (cl2 a3) a2) xJ0 [.int (cl3 a1), .int (cl2 a3), .ref q1, .int (tE a2 (cN (cl3 a1))), .ref q2, .int 0, .ref q3, .int 0, .ref q4, .ref p0, .null] 60 80 3)).set 0 (a, .inr (5, [.int (cl3 a1), .int (cl2 a3), .ref q1, .int (tE a2 (cN (cl3 a1))), .ref q2, .int 0, .ref q3, .int 0, .ref q4, .ref p0, .ref d0])) = gw (459) (fT ca af (xI0 (cl3 a1) (cl2 a3) a2) xJ0 [.int (cl3 a1), .int (cl2 a3), .ref q1, .int (tE a2 (cN (cl3 a1))), .ref q2, .int 0, .ref q3, .int 0, .ref q4, .ref p0, .ref d0] 60 80 3) := by rw [← h0]; exact set_0 (by omega)
    have hP : va_P D vwCl (gw (459) (fT ca af (xI0 (cl3 a1) (cl2 a3) a2) xJ0 [.int (cl3 a1), .int (cl2 a3), .ref q1, .int (tE a2 (cN (cl3 a1))), .ref q2, .int 0, .ref q3, .int 0, .ref q4, .ref p0, .ref d0] 60 80 3)) H := by rw [← e0]; exact hP
    have hD : va_D A (gw (459) (fT ca af (xI0 (cl3 a1) (cl2 a3) a2) xJ0 [.int (cl3 a1), .int (cl2 a3), .ref q1, .int (tE a2 (cN (cl3 a1))), .ref q2, .int 0, .ref q3, .int 0, .ref q4, .ref p0, .ref d0] 60 80 3)) := by rw [← e0]; exact hD
    refine lv_aload_n hx hb dF_init_233 rfl (lv_at hl 0 rfl) ?_
    refine lv_iconst (v := 1) hx hb dF_init_234 (by decide) ?_
    refine va_put (D := D) (ci := 5) (v := .int 1) (ty := .int) (C := RF) (T := TF) (N := 11) hx hb htb inF tyF tyF_ok nmF hown hK hP hD hS 0 (by rw [gw_get (by omega), fT_0, h0]) rfl 5 (by decide) (htb _ k1_167) (fun _ h9 => h9) rfl (by decide +kernel) rfl rfl (Nat.le_of_ble_eq_true rfl) dF_init_235 (fun H locs hP hD hS => ?_)
    have e0 : (gw (459) (fT ca af (xI0 (cl3 a1) (cl2 a3) a2) xJ0 [.int (cl3 a1), .int (cl2 a3), .ref q1, .int (tE a2 (cN (cl3 a1))), .ref q2, .int 0, .ref q3, .int 0, .ref q4, .ref p0, .ref d0] 60 80 3)).set 0 (a, .inr (5, [.int (cl3 a1), .int (cl2 a3), .ref q1, .int (tE a2 (cN (cl3 a1))), .ref q2, .int 1, .ref q3, .int 0, .ref q4, .ref p0, .ref d0])) = gw (459) (fT ca af (xI0 (cl3 a1) (cl2 a3) a2) xJ0 [.int (cl3 a1), .int (cl2 a3), .ref q1, .int (tE a2 (cN (cl3 a1))), .ref q2, .int 1, .ref q3, .int 0, .ref q4, .ref p0, .ref d0] 60 80 3) := by rw [← h0]; exact set_0 (by omega)
    have hP : va_P D vwCl (gw (459) (fT ca af (xI0 (cl3 a1) (cl2 a3) a2) xJ0 [.int (cl3 a1), .int (cl2 a3), .ref q1, .int (tE a2 (cN (cl3 a1))), .ref q2, .int 1, .ref q3, .int 0, .ref q4, .ref p0, .ref d0] 60 80 3)) H := by rw [← e0]; exact hP
    have hD : va_D A (gw (459) (fT ca af (xI0 (cl3 a1) (cl2 a3) a2) xJ0 [.int (cl3 a1), .int (cl2 a3), .ref q1, .int (tE a2 (cN (cl3 a1))), .ref q2, .int 1, .ref q3, .int 0, .ref q4, .ref p0, .ref d0] 60 80 3)) := by rw [← e0]; exact hD
    refine lv_aload_n hx hb dF_init_238 rfl (lv_at hl 0 rfl) ?_
    refine lv_iconst (v := 0) hx hb dF_init_239 (by decide) ?_
    refine va_put (D := D) (ci := 5) (v := .int 0) (ty := .int) (C := RF) (T := TF) (N := 11) hx hb htb inF tyF tyF_ok nmF hown hK hP hD hS 0 (by rw [gw_get (by omega), fT_0, h0]) rfl 7 (by decide) (htb _ k1_169) (fun _ h9 => h9) rfl (by decide +kernel) rfl rfl (Nat.le_of_ble_eq_true rfl) dF_init_240 (fun H locs hP hD hS => ?_)
    have e0 : (gw (459) (fT ca af (xI0 (cl3 a1) (cl2 a3) a2) xJ0 [.int (cl3 a1), .int (cl2 a3), .ref q1, .int (tE a2 (cN (cl3 a1))), .ref q2, .int 1, .ref q3, .int 0, .ref q4, .ref p0, .ref d0] 60 80 3)).set 0 (a, .inr (5, [.int (cl3 a1), .int (cl2 a3), .ref q1, .int (tE a2 (cN (cl3 a1))), .ref q2, .int 1, .ref q3, .int 0, .ref q4, .ref p0, .ref d0])) = gw (459) (fT ca af (xI0 (cl3 a1) (cl2 a3) a2) xJ0 [.int (cl3 a1), .int (cl2 a3), .ref q1, .int (tE a2 (cN (cl3 a1))), .ref q2, .int 1, .ref q3, .int 0, .ref q4, .ref p0, .ref d0] 60 80 3) := by rw [← h0]; exact set_0 (by omega)
    have hP : va_P D vwCl (gw (459) (fT ca af (xI0 (cl3 a1) (cl2 a3) a2) xJ0 [.int (cl3 a1), .int (cl2 a3), .ref q1, .int (tE a2 (cN (cl3 a1))), .ref q2, .int 1, .ref q3, .int 0, .ref q4, .ref p0, .ref d0] 60 80 3)) H := by rw [← e0]; exact hP
    have hD : va_D A (gw (459) (fT ca af (xI0 (cl3 a1) (cl2 a3) a2) xJ0 [.int (cl3 a1), .int (cl2 a3), .ref q1, .int (tE a2 (cN (cl3 a1))), .ref q2, .int 1, .ref q3, .int 0, .ref q4, .ref p0, .ref d0] 60 80 3)) := by rw [← e0]; exact hD
    have hP : va_P D vwCl (mw 459 af (xmk ca af) (xI0 (cl3 a1) (cl2 a3) a2) xJ0) H := gw_P hP (fT_end (a := a) h1 h2 h3 h4 h5 h6)
    have hD : va_D A (mw 459 af (xmk ca af) (xI0 (cl3 a1) (cl2 a3) a2) xJ0) := gw_D hD (fun j hj => rfl)
    refine W.widen (k := 458) (n := 2711) (Nat.le_of_ble_eq_true rfl) (Nat.le_of_ble_eq_true rfl) ?_
    rw [← hAe] at hD hS ⊢
    exact W.vret hx hb hr (fun t ht hW => ⟨⟨mw 459 af (xmk ca af) (xI0 (cl3 a1) (cl2 a3) a2) xJ0, rfl, ⟨af, h0, rfl⟩, by rw [ht]; exact hP, hD⟩, hS.F ht⟩) hS.2.2 dF_init_243 hlk
  have keyN : ∀ (q1 q2 q3 q4 : Nat) (k i : Nat) (ad : Nat → Nat) (H : Heap) (locs : List Loc) (ls : Array Slot), i + k = 3 → ad 0 = a → ad 1 = q1 → ad 2 = q2 → ad 363 = q3 → ad 444 = q4 → va_P D vwCl (gw (445 + 3 * i) (fT ca ad (xI0 (cl3 a1) (cl2 a3) a2) xJ0 [.int (cl3 a1), .int (cl2 a3), .ref q1, .int (tE a2 (cN (cl3 a1))), .ref q2, .int 0, .ref q3, .int 0, .ref q4, .null, .null] 60 80 i)) H → va_D A (gw (445 + 3 * i) (fT ca ad (xI0 (cl3 a1) (cl2 a3) a2) xJ0 [.int (cl3 a1), .int (cl2 a3), .ref q1, .int (tE a2 (cN (cl3 a1))), .ref q2, .int 0, .ref q3, .int 0, .ref q4, .null, .null] 60 80 i)) → va_S A s.heap H locs → lv_has ls 6 [(5, .int (nI i)), (0, .ref a)] → W p l e (headSpec wF_init ({ frames := 3, cells := 458, slots := 2711, locals := 65 } : Room)).room s m (([.ref a, .int a1, .int a2, .int a3] : List Value).toArray) below meth c H locs (444 + 3 * i) (2410 + 92 * i) (MQ below (cQ D [(a, .inr (5, [.int 0, .int 0, .null, .int 0, .null, .int 0, .null, .int 0, .null, .null, .null]))] s.heap.size (fun u => ∃ ad : Nat → Nat, ad 0 = a ∧ u = mw 459 ad (xmk ca ad) (xI0 (cl3 a1) (cl2 a3) a2) xJ0)) (([.ref a, .int a1, .int a2, .int a3] : List Value).toArray) s 458 2711 A) (F0 m 185 ls []) := by
    intro q1 q2 q3 q4 k
    induction k with
    | zero =>
      intro i ad H locs ls hi h0 h1 h2 h3 h4 hP hD hS hl
      have hi : i = 3 := by omega
      subst hi
      refine lv_iload hx hb dF_init_185 (lv_at hl 0 rfl) ?_
      refine lv_iconst (v := 3) hx hb dF_init_187 (by decide) ?_
      refine lv_icmp_ge (tgt := 211) hx hb dF_init_188 (by decide) (fun hc => ?_) (fun hc => absurd (nI_le (a := 3) (b := 3) (Nat.le_refl _) (by omega)) hc)
      exact e211 q1 q2 q3 q4 ad H locs ls h0 h1 h2 h3 h4 hP hD hS (lv_sub hl [1] rfl)
    | succ k ih =>
      intro i ad H locs ls hi h0 h1 h2 h3 h4 hP hD hS hl
      have hil : i < 3 := by omega
      refine lv_iload hx hb dF_init_185 (lv_at hl 0 rfl) ?_
      refine lv_iconst (v := 3) hx hb dF_init_187 (by decide) ?_
      refine lv_icmp_ge (tgt := 211) hx hb dF_init_188 (by decide) (fun hc => absurd hc (nI_ge (b := 3) (by omega) (by omega))) (fun hc => ?_)
      refine lv_aload_n hx hb dF_init_191 rfl (lv_at hl 1 rfl) ?_
      refine va_get (D := D) (ci := 5) (v := .ref q4) (C := RF) (T := TF) (N := 11) hx hb htb inF hown hK hP 0 (by rw [gw_get (by omega), fT_0, h0]) rfl 8 (by decide) (htb _ k1_170) (fun _ h9 => h9) rfl dF_init_192 ?_
      refine lv_iload hx hb dF_init_195 (lv_at hl 0 rfl) ?_
      refine va_new (ci := 2) (fs := [.long 0, .null, .null, .int 0, .int 0]) (C := RN) (T := TN) (N := 5) hx hb htb inN tyN tyN_ok hown (htb _ k1_131) (htb _ k1_133) (htb _ k1_7) hK hP hD hS hA rfl (fun j hj => by rcases (show j = 0 ∨ j = 1 ∨ j = 2 ∨ j = 3 ∨ j = 4 by omega) with rfl | rfl | rfl | rfl | rfl <;> rfl) (show 444 + 3 * i + 1 ≤ 458 from by omega) (show 2410 + 92 * i + 5 ≤ 2711 from by omega) dF_init_197 (fun p0 H hP hD hS => ?_)
      refine lv_dup hx hb dF_init_200 rfl ?_
      refine cc_v (w := gw (445 + 3 * i) (fT ca ad (xI0 (cl3 a1) (cl2 a3) a2) xJ0 [.int (cl3 a1), .int (cl2 a3), .ref q1, .int (tE a2 (cN (cl3 a1))), .ref q2, .int 0, .ref q3, .int 0, .ref q4, .null, .null] 60 80 i)) (x := (p0, .inr (2, [.long 0, .null, .null, .int 0, .int 0]))) (va_runI (As := []) (rest := [.ref p0, .int (nI i), .ref q4]) ⟨hx, hb, hml, hown, htb⟩ (C_N_init l D ca p0 H.size) (cwI 0 htb (gd_c k1_136) rfl rfl rfl (htb _ k1_7) (htb _ k1_134) (htb _ k1_135) rfl (by decide +kernel) ⟨Nat.le_of_ble_eq_true rfl, Nat.le_of_ble_eq_true rfl⟩) (cPre_S (w := gw (445 + 3 * i) (fT ca ad (xI0 (cl3 a1) (cl2 a3) a2) xJ0 [.int (cl3 a1), .int (cl2 a3), .ref q1, .int (tE a2 (cN (cl3 a1))), .ref q2, .int 0, .ref q3, .int 0, .ref q4, .null, .null] 60 80 i)) (x := (p0, .inr (2, [.long 0, .null, .null, .int 0, .int 0]))) hK hP hD hN) rfl rfl hl.1 rfl (lv_room (Nat.le_of_ble_eq_true rfl)) dF_init_201 ⟨(show 444 + 3 * i + 1 + 2 ≤ 458 from by omega), (show 2410 + 92 * i + 5 + 87 ≤ 2711 from by omega)⟩) hP hD hS hA (fun u H locs hu hP hD hS => ?_)
      obtain ⟨p1, p2, rfl⟩ := hu
      rw [st_n hil p0 p1 p2] at hP hD
      obtain ⟨ae, hae⟩ : ∃ f : Nat → Nat, f = (adx ad (445 + 3 * i) [p0, p1, p2]) := ⟨_, rfl⟩
      rw [← hae] at hP hD
      have h5 : ae (445 + 3 * i) = p0 := by rw [hae]; exact adx_r ad (445 + 3 * i) [p0, p1, p2] 0
      have h0 : ae 0 = a := by rw [hae, adx_l (by omega)]; exact h0
      have h1 : ae 1 = q1 := by rw [hae, adx_l (by omega)]; exact h1
      have h2 : ae 2 = q2 := by rw [hae, adx_l (by omega)]; exact h2
      have h3 : ae 363 = q3 := by rw [hae, adx_l (by omega)]; exact h3
      have h4 : ae 444 = q4 := by rw [hae, adx_l (by omega)]; exact h4
      refine va_astq (f := fun b => if b < i then some (ae (445 + 3 * b)) else none) (r := (RN, TN, 5)) hx hb hK hP hD hS 444 4 (445 + 3 * i) 2 (by rw [gw_get (by omega), fT_4, h4]) rfl (by rw [gw_get (by omega), fT_x (by omega) (by omega) (by omega) (by omega), h5, xm_N (xk_n hil)]) rfl (iin hil (by omega)) dF_init_204 (fun H locs hP hD hS => ?_)
      rw [ic (n := i) (by omega), ← h4, ← h5, set_4 (by omega), h4] at hP hD
      refine lv_iinc (k := 0) (v := nI i + 1) (lv' := [(5, .int (nI i + 1)), (0, .ref a)]) hx hb dF_init_205 hl rfl (by rfl) (by decide) rfl (fun ls hl => ?_)
      rw [nI_1] at hl
      refine lv_goto (tgt := 185) hx hb dF_init_208 (by decide) ?_
      refine W.widen (k := 444 + 3 * (i + 1)) (n := 2410 + 92 * (i + 1)) (by omega) (by omega) ?_
      rw [show 445 + 3 * i + 3 = 445 + 3 * (i + 1) from by omega] at hP hD
      exact ih (i + 1) ae H locs ls (by omega) h0 h1 h2 h3 h4 hP hD hS hl
  have e174 : ∀ (q1 q2 q3 : Nat) (ad : Nat → Nat) (H : Heap) (locs : List Loc) (ls : Array Slot), ad 0 = a → ad 1 = q1 → ad 2 = q2 → ad 363 = q3 → va_P D vwCl (gw (444) (fT ca ad (xI0 (cl3 a1) (cl2 a3) a2) xJ0 [.int (cl3 a1), .int (cl2 a3), .ref q1, .int (tE a2 (cN (cl3 a1))), .ref q2, .int 0, .ref q3, .int 0, .null, .null, .null] 60 80 0)) H → va_D A (gw (444) (fT ca ad (xI0 (cl3 a1) (cl2 a3) a2) xJ0 [.int (cl3 a1), .int (cl2 a3), .ref q1, .int (tE a2 (cN (cl3 a1))), .ref q2, .int 0, .ref q3, .int 0, .null, .null, .null] 60 80 0)) → va_S A s.heap H locs → lv_has ls 6 [(0, .ref a)] → W p l e (headSpec wF_init ({ frames := 3, cells := 458, slots := 2711, locals := 65 } : Room)).room s m (([.ref a, .int a1, .int a2, .int a3] : List Value).toArray) below meth c H locs (443) (2407) (MQ below (cQ D [(a, .inr (5, [.int 0, .int 0, .null, .int 0, .null, .int 0, .null, .int 0, .null, .null, .null]))] s.heap.size (fun u => ∃ ad : Nat → Nat, ad 0 = a ∧ u = mw 459 ad (xmk ca ad) (xI0 (cl3 a1) (cl2 a3) a2) xJ0)) (([.ref a, .int a1, .int a2, .int a3] : List Value).toArray) s 458 2711 A) (F0 m 174 ls []) := by
    intro q1 q2 q3 ad H locs ls h0 h1 h2 h3 hP hD hS hl
    refine lv_aload_n hx hb dF_init_174 rfl (lv_at hl 0 rfl) ?_
    refine lv_iconst (v := 3) hx hb dF_init_175 (by decide) ?_
    refine mr_newq (N' := 3) (C := "FinalityTree$Node") hx hb hown (htb _ k1_131) hAN hK hP hD hS hA 4 rfl (by decide) rfl (by decide) (Nat.le_of_ble_eq_true rfl) (Nat.le_of_ble_eq_true rfl) dF_init_176 (fun q4 H hP hD hS => ?_)
    rw [st_na q4] at hP hD
    obtain ⟨ae, hae⟩ : ∃ f : Nat → Nat, f = (adx ad 444 [q4]) := ⟨_, rfl⟩
    rw [← hae] at hP hD
    have hq : ae 444 = q4 := by rw [hae]; exact adx_r ad 444 [q4] 0
    have h0 : ae 0 = a := by rw [hae, adx_l (by omega)]; exact h0
    have h1 : ae 1 = q1 := by rw [hae, adx_l (by omega)]; exact h1
    have h2 : ae 2 = q2 := by rw [hae, adx_l (by omega)]; exact h2
    have h3 : ae 363 = q3 := by rw [hae, adx_l (by omega)]; exact h3
    refine va_putF (D := D) (ci := 5) (v := .ref q4) (ty := (.array (.object "FinalityTree$Node"))) (C := RF) (T := TF) (N := 11) hx hb htb inF tyF tyF_ok nmF hown hK hP hD hS 0 (by rw [gw_get (by omega), fT_0, h0]) rfl 8 (by decide) (htb _ k1_170) (fun _ h9 => h9) rfl hin rfl (by decide +kernel) rfl rfl (Nat.le_of_ble_eq_true rfl) dF_init_179 (fun H locs hP hD hS => ?_)
    have e0 : (gw (445) (fT ca ae (xI0 (cl3 a1) (cl2 a3) a2) xJ0 [.int (cl3 a1), .int (cl2 a3), .ref q1, .int (tE a2 (cN (cl3 a1))), .ref q2, .int 0, .ref q3, .int 0, .null, .null, .null] 60 80 0)).set 0 (a, .inr (5, [.int (cl3 a1), .int (cl2 a3), .ref q1, .int (tE a2 (cN (cl3 a1))), .ref q2, .int 0, .ref q3, .int 0, .ref q4, .null, .null])) = gw (445) (fT ca ae (xI0 (cl3 a1) (cl2 a3) a2) xJ0 [.int (cl3 a1), .int (cl2 a3), .ref q1, .int (tE a2 (cN (cl3 a1))), .ref q2, .int 0, .ref q3, .int 0, .ref q4, .null, .null] 60 80 0) := by rw [← h0]; exact set_0 (by omega)
    have hP : va_P D vwCl (gw (445) (fT ca ae (xI0 (cl3 a1) (cl2 a3) a2) xJ0 [.int (cl3 a1), .int (cl2 a3), .ref q1, .int (tE a2 (cN (cl3 a1))), .ref q2, .int 0, .ref q3, .int 0, .ref q4, .null, .null] 60 80 0)) H := by rw [← e0]; exact hP
    have hD : va_D A (gw (445) (fT ca ae (xI0 (cl3 a1) (cl2 a3) a2) xJ0 [.int (cl3 a1), .int (cl2 a3), .ref q1, .int (tE a2 (cN (cl3 a1))), .ref q2, .int 0, .ref q3, .int 0, .ref q4, .null, .null] 60 80 0)) := by rw [← e0]; exact hD
    refine lv_iconst (v := 0) hx hb dF_init_182 (by decide) ?_
    refine lv_istore (lv' := [(5, .int 0), (0, .ref a)]) hx hb dF_init_183 hl (by decide) rfl (fun ls hl => ?_)
    exact keyN q1 q2 q3 q4 3 0 ae H locs ls (by omega) h0 h1 h2 h3 hq hP hD hS hl
  have keyV : ∀ (q1 q2 q3 : Nat) (k i : Nat) (ad : Nat → Nat) (H : Heap) (locs : List Loc) (ls : Array Slot), i + k = 80 → ad 0 = a → ad 1 = q1 → ad 2 = q2 → ad 363 = q3 → va_P D vwCl (gw (364 + i) (fT ca ad (xI0 (cl3 a1) (cl2 a3) a2) xJ0 [.int (cl3 a1), .int (cl2 a3), .ref q1, .int (tE a2 (cN (cl3 a1))), .ref q2, .int 0, .ref q3, .int 0, .null, .null, .null] 60 i 0)) H → va_D A (gw (364 + i) (fT ca ad (xI0 (cl3 a1) (cl2 a3) a2) xJ0 [.int (cl3 a1), .int (cl2 a3), .ref q1, .int (tE a2 (cN (cl3 a1))), .ref q2, .int 0, .ref q3, .int 0, .null, .null, .null] 60 i 0)) → va_S A s.heap H locs → lv_has ls 6 [(5, .int (nI i)), (0, .ref a)] → W p l e (headSpec wF_init ({ frames := 3, cells := 458, slots := 2711, locals := 65 } : Room)).room s m (([.ref a, .int a1, .int a2, .int a3] : List Value).toArray) below meth c H locs (363 + 1 * i) (2007 + 5 * i) (MQ below (cQ D [(a, .inr (5, [.int 0, .int 0, .null, .int 0, .null, .int 0, .null, .int 0, .null, .null, .null]))] s.heap.size (fun u => ∃ ad : Nat → Nat, ad 0 = a ∧ u = mw 459 ad (xmk ca ad) (xI0 (cl3 a1) (cl2 a3) a2) xJ0)) (([.ref a, .int a1, .int a2, .int a3] : List Value).toArray) s 458 2711 A) (F0 m 147 ls []) := by
    intro q1 q2 q3 k
    induction k with
    | zero =>
      intro i ad H locs ls hi h0 h1 h2 h3 hP hD hS hl
      have hi : i = 80 := by omega
      subst hi
      refine lv_iload hx hb dF_init_147 (lv_at hl 0 rfl) ?_
      refine lv_bipush (v := 80) hx hb dF_init_149 (by decide) ?_
      refine lv_icmp_ge (tgt := 174) hx hb dF_init_151 (by decide) (fun hc => ?_) (fun hc => absurd (nI_le (a := 80) (b := 80) (Nat.le_refl _) (by omega)) hc)
      exact e174 q1 q2 q3 ad H locs ls h0 h1 h2 h3 hP hD hS (lv_sub hl [1] rfl)
    | succ k ih =>
      intro i ad H locs ls hi h0 h1 h2 h3 hP hD hS hl
      have hil : i < 80 := by omega
      refine lv_iload hx hb dF_init_147 (lv_at hl 0 rfl) ?_
      refine lv_bipush (v := 80) hx hb dF_init_149 (by decide) ?_
      refine lv_icmp_ge (tgt := 174) hx hb dF_init_151 (by decide) (fun hc => absurd hc (nI_ge (b := 80) (by omega) (by omega))) (fun hc => ?_)
      refine lv_aload_n hx hb dF_init_154 rfl (lv_at hl 1 rfl) ?_
      refine va_get (D := D) (ci := 5) (v := .ref q3) (C := RF) (T := TF) (N := 11) hx hb htb inF hown hK hP 0 (by rw [gw_get (by omega), fT_0, h0]) rfl 6 (by decide) (htb _ k1_168) (fun _ h9 => h9) rfl dF_init_155 ?_
      refine lv_iload hx hb dF_init_158 (lv_at hl 0 rfl) ?_
      refine va_new (ci := 4) (fs := [.int 0, .int 0, .int 0, .int 0, .int 0]) (C := RV) (T := TV) (N := 5) hx hb htb inV tyV tyV_ok hown (htb _ k1_106) (htb _ k1_108) (htb _ k1_6) hK hP hD hS hA rfl (fun j hj => by rcases (show j = 0 ∨ j = 1 ∨ j = 2 ∨ j = 3 ∨ j = 4 by omega) with rfl | rfl | rfl | rfl | rfl <;> rfl) (show 363 + 1 * i + 1 ≤ 458 from by omega) (show 2007 + 5 * i + 5 ≤ 2711 from by omega) dF_init_160 (fun p0 H hP hD hS => ?_)
      refine lv_dup hx hb dF_init_163 rfl ?_
      refine cc_v (w := gw (364 + i) (fT ca ad (xI0 (cl3 a1) (cl2 a3) a2) xJ0 [.int (cl3 a1), .int (cl2 a3), .ref q1, .int (tE a2 (cN (cl3 a1))), .ref q2, .int 0, .ref q3, .int 0, .null, .null, .null] 60 i 0)) (x := (p0, .inr (4, [.int 0, .int 0, .int 0, .int 0, .int 0]))) (va_runIN (As := []) (rest := [.ref p0, .int (nI i), .ref q3]) ⟨hx, hb, hml, hown, htb⟩ (C_V_init l D ca p0 H.size) ⟨va_cnB 0 htb (gd_c k1_111) rfl rfl rfl (nl_2 hN) (htb _ k1_6) (by decide +kernel) ⟨Nat.le_of_ble_eq_true rfl, Nat.le_of_ble_eq_true rfl⟩, rfl, htb _ k1_110⟩ (cPre_S (w := gw (364 + i) (fT ca ad (xI0 (cl3 a1) (cl2 a3) a2) xJ0 [.int (cl3 a1), .int (cl2 a3), .ref q1, .int (tE a2 (cN (cl3 a1))), .ref q2, .int 0, .ref q3, .int 0, .null, .null, .null] 60 i 0)) (x := (p0, .inr (4, [.int 0, .int 0, .int 0, .int 0, .int 0]))) hK hP hD hN) rfl rfl hl.1 rfl (lv_room (Nat.le_of_ble_eq_true rfl)) dF_init_164 ⟨(show 363 + 1 * i + 1 + 0 ≤ 458 from by omega), (show 2007 + 5 * i + 5 + 0 ≤ 2711 from by omega)⟩) hP hD hS hA (fun u H locs hu hP hD hS => ?_)
      subst hu
      rw [st_v hil p0] at hP hD
      obtain ⟨ae, hae⟩ : ∃ f : Nat → Nat, f = (adx ad (364 + i) [p0]) := ⟨_, rfl⟩
      rw [← hae] at hP hD
      have h5 : ae (364 + i) = p0 := by rw [hae]; exact adx_r ad (364 + i) [p0] 0
      have h0 : ae 0 = a := by rw [hae, adx_l (by omega)]; exact h0
      have h1 : ae 1 = q1 := by rw [hae, adx_l (by omega)]; exact h1
      have h2 : ae 2 = q2 := by rw [hae, adx_l (by omega)]; exact h2
      have h3 : ae 363 = q3 := by rw [hae, adx_l (by omega)]; exact h3
      refine va_astq (f := fun b => if b < i then some (ae (364 + b)) else none) (r := (RV, TV, 5)) hx hb hK hP hD hS 363 3 (364 + i) 4 (by rw [gw_get (by omega), fT_3, h3]) rfl (by rw [gw_get (by omega), fT_x (by omega) (by omega) (by omega) (by omega), h5, xm_V (xk_v hil)]) rfl (iin hil (by omega)) dF_init_167 (fun H locs hP hD hS => ?_)
      rw [ic (n := i) (by omega), ← h3, ← h5, set_3 (by omega), h3] at hP hD
      refine lv_iinc (k := 0) (v := nI i + 1) (lv' := [(5, .int (nI i + 1)), (0, .ref a)]) hx hb dF_init_168 hl rfl (by rfl) (by decide) rfl (fun ls hl => ?_)
      rw [nI_1] at hl
      refine lv_goto (tgt := 147) hx hb dF_init_171 (by decide) ?_
      refine W.widen (k := 363 + 1 * (i + 1)) (n := 2007 + 5 * (i + 1)) (by omega) (by omega) ?_
      rw [show 364 + i + 1 = 364 + (i + 1) from by omega] at hP hD
      exact ih (i + 1) ae H locs ls (by omega) h0 h1 h2 h3 hP hD hS hl
  have e135 : ∀ (q1 q2 : Nat) (ad : Nat → Nat) (H : Heap) (locs : List Loc) (ls : Array Slot), ad 0 = a → ad 1 = q1 → ad 2 = q2 → va_P D vwCl (gw (363) (fT ca ad (xI0 (cl3 a1) (cl2 a3) a2) xJ0 [.int (cl3 a1), .int (cl2 a3), .ref q1, .int (tE a2 (cN (cl3 a1))), .ref q2, .int 0, .null, .int 0, .null, .null, .null] 60 0 0)) H → va_D A (gw (363) (fT ca ad (xI0 (cl3 a1) (cl2 a3) a2) xJ0 [.int (cl3 a1), .int (cl2 a3), .ref q1, .int (tE a2 (cN (cl3 a1))), .ref q2, .int 0, .null, .int 0, .null, .null, .null] 60 0 0)) → va_S A s.heap H locs → lv_has ls 6 [(0, .ref a)] → W p l e (headSpec wF_init ({ frames := 3, cells := 458, slots := 2711, locals := 65 } : Room)).room s m (([.ref a, .int a1, .int a2, .int a3] : List Value).toArray) below meth c H locs (362) (1927) (MQ below (cQ D [(a, .inr (5, [.int 0, .int 0, .null, .int 0, .null, .int 0, .null, .int 0, .null, .null, .null]))] s.heap.size (fun u => ∃ ad : Nat → Nat, ad 0 = a ∧ u = mw 459 ad (xmk ca ad) (xI0 (cl3 a1) (cl2 a3) a2) xJ0)) (([.ref a, .int a1, .int a2, .int a3] : List Value).toArray) s 458 2711 A) (F0 m 135 ls []) := by
    intro q1 q2 ad H locs ls h0 h1 h2 hP hD hS hl
    refine lv_aload_n hx hb dF_init_135 rfl (lv_at hl 0 rfl) ?_
    refine lv_bipush (v := 80) hx hb dF_init_136 (by decide) ?_
    refine mr_newq (N' := 80) (C := "FinalityTree$Vote") hx hb hown (htb _ k1_106) hAV hK hP hD hS hA 3 rfl (by decide) rfl (by decide) (Nat.le_of_ble_eq_true rfl) (Nat.le_of_ble_eq_true rfl) dF_init_138 (fun q3 H hP hD hS => ?_)
    rw [st_va q3] at hP hD
    obtain ⟨ae, hae⟩ : ∃ f : Nat → Nat, f = (adx ad 363 [q3]) := ⟨_, rfl⟩
    rw [← hae] at hP hD
    have hq : ae 363 = q3 := by rw [hae]; exact adx_r ad 363 [q3] 0
    have h0 : ae 0 = a := by rw [hae, adx_l (by omega)]; exact h0
    have h1 : ae 1 = q1 := by rw [hae, adx_l (by omega)]; exact h1
    have h2 : ae 2 = q2 := by rw [hae, adx_l (by omega)]; exact h2
    refine va_putF (D := D) (ci := 5) (v := .ref q3) (ty := (.array (.object "FinalityTree$Vote"))) (C := RF) (T := TF) (N := 11) hx hb htb inF tyF tyF_ok nmF hown hK hP hD hS 0 (by rw [gw_get (by omega), fT_0, h0]) rfl 6 (by decide) (htb _ k1_168) (fun _ h9 => h9) rfl hin rfl (by decide +kernel) rfl rfl (Nat.le_of_ble_eq_true rfl) dF_init_141 (fun H locs hP hD hS => ?_)
    have e0 : (gw (364) (fT ca ae (xI0 (cl3 a1) (cl2 a3) a2) xJ0 [.int (cl3 a1), .int (cl2 a3), .ref q1, .int (tE a2 (cN (cl3 a1))), .ref q2, .int 0, .null, .int 0, .null, .null, .null] 60 0 0)).set 0 (a, .inr (5, [.int (cl3 a1), .int (cl2 a3), .ref q1, .int (tE a2 (cN (cl3 a1))), .ref q2, .int 0, .ref q3, .int 0, .null, .null, .null])) = gw (364) (fT ca ae (xI0 (cl3 a1) (cl2 a3) a2) xJ0 [.int (cl3 a1), .int (cl2 a3), .ref q1, .int (tE a2 (cN (cl3 a1))), .ref q2, .int 0, .ref q3, .int 0, .null, .null, .null] 60 0 0) := by rw [← h0]; exact set_0 (by omega)
    have hP : va_P D vwCl (gw (364) (fT ca ae (xI0 (cl3 a1) (cl2 a3) a2) xJ0 [.int (cl3 a1), .int (cl2 a3), .ref q1, .int (tE a2 (cN (cl3 a1))), .ref q2, .int 0, .ref q3, .int 0, .null, .null, .null] 60 0 0)) H := by rw [← e0]; exact hP
    have hD : va_D A (gw (364) (fT ca ae (xI0 (cl3 a1) (cl2 a3) a2) xJ0 [.int (cl3 a1), .int (cl2 a3), .ref q1, .int (tE a2 (cN (cl3 a1))), .ref q2, .int 0, .ref q3, .int 0, .null, .null, .null] 60 0 0)) := by rw [← e0]; exact hD
    refine lv_iconst (v := 0) hx hb dF_init_144 (by decide) ?_
    refine lv_istore (lv' := [(5, .int 0), (0, .ref a)]) hx hb dF_init_145 hl (by decide) rfl (fun ls hl => ?_)
    exact keyV q1 q2 q3 80 0 ae H locs ls (by omega) h0 h1 h2 hq hP hD hS hl
  have keyB : ∀ (q1 q2 : Nat) (k i : Nat) (ad : Nat → Nat) (H : Heap) (locs : List Loc) (ls : Array Slot), i + k = 60 → ad 0 = a → ad 1 = q1 → ad 2 = q2 → va_P D vwCl (gw (3 + 6 * i) (fT ca ad (xI0 (cl3 a1) (cl2 a3) a2) xJ0 [.int (cl3 a1), .int (cl2 a3), .ref q1, .int (tE a2 (cN (cl3 a1))), .ref q2, .int 0, .null, .int 0, .null, .null, .null] i 0 0)) H → va_D A (gw (3 + 6 * i) (fT ca ad (xI0 (cl3 a1) (cl2 a3) a2) xJ0 [.int (cl3 a1), .int (cl2 a3), .ref q1, .int (tE a2 (cN (cl3 a1))), .ref q2, .int 0, .null, .int 0, .null, .null, .null] i 0 0)) → va_S A s.heap H locs → lv_has ls 6 [(5, .int (nI i)), (0, .ref a)] → W p l e (headSpec wF_init ({ frames := 3, cells := 458, slots := 2711, locals := 65 } : Room)).room s m (([.ref a, .int a1, .int a2, .int a3] : List Value).toArray) below meth c H locs (2 + 6 * i) (67 + 31 * i) (MQ below (cQ D [(a, .inr (5, [.int 0, .int 0, .null, .int 0, .null, .int 0, .null, .int 0, .null, .null, .null]))] s.heap.size (fun u => ∃ ad : Nat → Nat, ad 0 = a ∧ u = mw 459 ad (xmk ca ad) (xI0 (cl3 a1) (cl2 a3) a2) xJ0)) (([.ref a, .int a1, .int a2, .int a3] : List Value).toArray) s 458 2711 A) (F0 m 108 ls []) := by
    intro q1 q2 k
    induction k with
    | zero =>
      intro i ad H locs ls hi h0 h1 h2 hP hD hS hl
      have hi : i = 60 := by omega
      subst hi
      refine lv_iload hx hb dF_init_108 (lv_at hl 0 rfl) ?_
      refine lv_bipush (v := 60) hx hb dF_init_110 (by decide) ?_
      refine lv_icmp_ge (tgt := 135) hx hb dF_init_112 (by decide) (fun hc => ?_) (fun hc => absurd (nI_le (a := 60) (b := 60) (Nat.le_refl _) (by omega)) hc)
      exact e135 q1 q2 ad H locs ls h0 h1 h2 hP hD hS (lv_sub hl [1] rfl)
    | succ k ih =>
      intro i ad H locs ls hi h0 h1 h2 hP hD hS hl
      have hil : i < 60 := by omega
      refine lv_iload hx hb dF_init_108 (lv_at hl 0 rfl) ?_
      refine lv_bipush (v := 60) hx hb dF_init_110 (by decide) ?_
      refine lv_icmp_ge (tgt := 135) hx hb dF_init_112 (by decide) (fun hc => absurd hc (nI_ge (b := 60) (by omega) (by omega))) (fun hc => ?_)
      refine lv_aload_n hx hb dF_init_115 rfl (lv_at hl 1 rfl) ?_
      refine va_get (D := D) (ci := 5) (v := .ref q2) (C := RF) (T := TF) (N := 11) hx hb htb inF hown hK hP 0 (by rw [gw_get (by omega), fT_0, h0]) rfl 4 (by decide) (htb _ k1_166) (fun _ h9 => h9) rfl dF_init_116 ?_
      refine lv_iload hx hb dF_init_119 (lv_at hl 0 rfl) ?_
      refine va_new (ci := 0) (fs := [.int 0, .int 0, .int 0, .long 0, .null, .null]) (C := RB) (T := TB) (N := 6) hx hb htb inB tyB tyB_ok hown (htb _ k1_24) (htb _ k1_26) (htb _ k1_3) hK hP hD hS hA rfl (fun j hj => by rcases (show j = 0 ∨ j = 1 ∨ j = 2 ∨ j = 3 ∨ j = 4 ∨ j = 5 by omega) with rfl | rfl | rfl | rfl | rfl | rfl <;> rfl) (show 2 + 6 * i + 1 ≤ 458 from by omega) (show 67 + 31 * i + 6 ≤ 2711 from by omega) dF_init_121 (fun p0 H hP hD hS => ?_)
      refine lv_dup hx hb dF_init_124 rfl ?_
      refine cc_v (w := gw (3 + 6 * i) (fT ca ad (xI0 (cl3 a1) (cl2 a3) a2) xJ0 [.int (cl3 a1), .int (cl2 a3), .ref q1, .int (tE a2 (cN (cl3 a1))), .ref q2, .int 0, .null, .int 0, .null, .null, .null] i 0 0)) (x := (p0, .inr (0, [.int 0, .int 0, .int 0, .long 0, .null, .null]))) (va_runIN (As := []) (rest := [.ref p0, .int (nI i), .ref q2]) ⟨hx, hb, hml, hown, htb⟩ (C_B_init l D ca p0 H.size) ⟨va_cnB 0 htb (gd_c k1_29) rfl rfl rfl (nl_0 hN) (htb _ k1_3) (by decide +kernel) ⟨Nat.le_of_ble_eq_true rfl, Nat.le_of_ble_eq_true rfl⟩, rfl, htb _ k1_28⟩ (cPre_S (w := gw (3 + 6 * i) (fT ca ad (xI0 (cl3 a1) (cl2 a3) a2) xJ0 [.int (cl3 a1), .int (cl2 a3), .ref q1, .int (tE a2 (cN (cl3 a1))), .ref q2, .int 0, .null, .int 0, .null, .null, .null] i 0 0)) (x := (p0, .inr (0, [.int 0, .int 0, .int 0, .long 0, .null, .null]))) hK hP hD hN) rfl rfl hl.1 rfl (lv_room (Nat.le_of_ble_eq_true rfl)) dF_init_125 ⟨(show 2 + 6 * i + 1 + 5 ≤ 458 from by omega), (show 67 + 31 * i + 6 + 25 ≤ 2711 from by omega)⟩) hP hD hS hA (fun u H locs hu hP hD hS => ?_)
      obtain ⟨p1, p2, p3, p4, p5, rfl⟩ := hu
      rw [st_b hil p0 p1 p2 p3 p4 p5] at hP hD
      obtain ⟨ae, hae⟩ : ∃ f : Nat → Nat, f = (adx ad (3 + 6 * i) [p0, p1, p2, p3, p4, p5]) := ⟨_, rfl⟩
      rw [← hae] at hP hD
      have h5 : ae (3 + 6 * i) = p0 := by rw [hae]; exact adx_r ad (3 + 6 * i) [p0, p1, p2, p3, p4, p5] 0
      have h0 : ae 0 = a := by rw [hae, adx_l (by omega)]; exact h0
      have h1 : ae 1 = q1 := by rw [hae, adx_l (by omega)]; exact h1
      have h2 : ae 2 = q2 := by rw [hae, adx_l (by omega)]; exact h2
      refine va_astq (f := fun b => if b < i then some (ae (3 + 6 * b)) else none) (r := (RB, TB, 6)) hx hb hK hP hD hS 2 2 (3 + 6 * i) 0 (by rw [gw_get (by omega), fT_2, h2]) rfl (by rw [gw_get (by omega), fT_x (by omega) (by omega) (by omega) (by omega), h5, xm_B (xk_b hil)]) rfl (iin hil (by omega)) dF_init_128 (fun H locs hP hD hS => ?_)
      rw [ic (n := i) (by omega), ← h2, ← h5, set_2 (by omega), h2] at hP hD
      refine lv_iinc (k := 0) (v := nI i + 1) (lv' := [(5, .int (nI i + 1)), (0, .ref a)]) hx hb dF_init_129 hl rfl (by rfl) (by decide) rfl (fun ls hl => ?_)
      rw [nI_1] at hl
      refine lv_goto (tgt := 108) hx hb dF_init_132 (by decide) ?_
      refine W.widen (k := 2 + 6 * (i + 1)) (n := 67 + 31 * (i + 1)) (by omega) (by omega) ?_
      rw [show 3 + 6 * i + 6 = 3 + 6 * (i + 1) from by omega] at hP hD
      exact ih (i + 1) ae H locs ls (by omega) h0 h1 h2 hP hD hS hl
  obtain ⟨n, hn3, hn7, en⟩ := cl3_n a1
  have ecn : cN (cl3 a1) = n := by rw [en]; exact cN_nI (by omega)
  have key0 : ∀ (q1 k v : Nat) (f : Nat → Int32) (H : Heap) (locs : List Loc) (ls : Array Slot), v + k = n → f = (fun k => if k < v then wE a2 (nI k) else 0) → va_P D vwCl [(a, .inr (5, [.int (cl3 a1), .int (cl2 a3), .ref q1, .int 0, .null, .int 0, .null, .int 0, .null, .null, .null])), (q1, .inl (ca 0, 7, .inl f))] H → va_D A [(a, .inr (5, [.int (cl3 a1), .int (cl2 a3), .ref q1, .int 0, .null, .int 0, .null, .int 0, .null, .null, .null])), (q1, .inl (ca 0, 7, .inl f))] → va_S A s.heap H locs → lv_has ls 6 [(5, .int (nI v)), (4, .int (tE a2 v)), (0, .ref a), (2, .int a2)] → W p l e (headSpec wF_init ({ frames := 3, cells := 458, slots := 2711, locals := 65 } : Room)).room s m (([.ref a, .int a1, .int a2, .int a3] : List Value).toArray) below meth c H locs (1) (7) (MQ below (cQ D [(a, .inr (5, [.int 0, .int 0, .null, .int 0, .null, .int 0, .null, .int 0, .null, .null, .null]))] s.heap.size (fun u => ∃ ad : Nat → Nat, ad 0 = a ∧ u = mw 459 ad (xmk ca ad) (xI0 (cl3 a1) (cl2 a3) a2) xJ0)) (([.ref a, .int a1, .int a2, .int a3] : List Value).toArray) s 458 2711 A) (F0 m 45 ls []) := by
    intro q1 k
    induction k with
    | zero =>
      intro v f H locs ls hv hf hP hD hS hl
      have hv : v = n := by omega
      subst hv
      refine lv_iload hx hb dF_init_45 (lv_at hl 0 rfl) ?_
      refine lv_aload_n hx hb dF_init_47 rfl (lv_at hl 2 rfl) ?_
      refine va_get (D := D) (ci := 5) (v := .int (cl3 a1)) (C := RF) (T := TF) (N := 11) hx hb htb inF hown hK hP 0 rfl rfl 0 (by decide) (htb _ k1_162) (fun _ h9 => h9) rfl dF_init_48 ?_
      refine lv_icmp_ge (tgt := 90) hx hb dF_init_51 (by decide) (fun hc => ?_) (fun hc => absurd (by rw [en]; exact nI_le (Nat.le_refl _) (by omega)) hc)
      refine lv_aload_n hx hb dF_init_90 rfl (lv_at hl 2 rfl) ?_
      refine lv_iload hx hb dF_init_91 (lv_at hl 1 rfl) ?_
      refine va_putF (D := D) (ci := 5) (v := .int (tE a2 v)) (ty := .int) (C := RF) (T := TF) (N := 11) hx hb htb inF tyF tyF_ok nmF hown hK hP hD hS 0 rfl rfl 3 (by decide) (htb _ k1_165) (fun _ h9 => h9) rfl hin rfl (by decide +kernel) rfl rfl (Nat.le_of_ble_eq_true rfl) dF_init_93 (fun H locs hP hD hS => ?_)
      have hP : va_P D vwCl [(a, .inr (5, [.int (cl3 a1), .int (cl2 a3), .ref q1, .int (tE a2 (cN (cl3 a1))), .null, .int 0, .null, .int 0, .null, .null, .null])), (q1, .inl (ca 0, 7, .inl (fun k => if k < cN (cl3 a1) then wE a2 (nI k) else 0)))] H := by rw [ecn, ← hf]; exact hP
      have hD : va_D A [(a, .inr (5, [.int (cl3 a1), .int (cl2 a3), .ref q1, .int (tE a2 (cN (cl3 a1))), .null, .int 0, .null, .int 0, .null, .null, .null])), (q1, .inl (ca 0, 7, .inl (fun k => if k < cN (cl3 a1) then wE a2 (nI k) else 0)))] := by rw [ecn, ← hf]; exact hD
      refine lv_aload_n hx hb dF_init_96 rfl (lv_at hl 2 rfl) ?_
      refine lv_bipush (v := 60) hx hb dF_init_97 (by decide) ?_
      refine mr_newq (N' := 60) (C := "FinalityTree$Block") hx hb hown (htb _ k1_24) hAB hK hP hD hS hA 2 rfl (by decide) rfl (by decide) (Nat.le_of_ble_eq_true rfl) (Nat.le_of_ble_eq_true rfl) dF_init_99 (fun q2 H hP hD hS => ?_)
      have hP : va_P D vwCl [(a, .inr (5, [.int (cl3 a1), .int (cl2 a3), .ref q1, .int (tE a2 (cN (cl3 a1))), .null, .int 0, .null, .int 0, .null, .null, .null])), (q1, .inl (ca 0, 7, .inl (fun k => if k < cN (cl3 a1) then wE a2 (nI k) else 0))), (q2, rfA (ca 2) 60 (fun _ => none))] H := hP
      have hD : va_D A [(a, .inr (5, [.int (cl3 a1), .int (cl2 a3), .ref q1, .int (tE a2 (cN (cl3 a1))), .null, .int 0, .null, .int 0, .null, .null, .null])), (q1, .inl (ca 0, 7, .inl (fun k => if k < cN (cl3 a1) then wE a2 (nI k) else 0))), (q2, rfA (ca 2) 60 (fun _ => none))] := hD
      refine va_putF (D := D) (ci := 5) (v := .ref q2) (ty := (.array (.object "FinalityTree$Block"))) (C := RF) (T := TF) (N := 11) hx hb htb inF tyF tyF_ok nmF hown hK hP hD hS 0 rfl rfl 4 (by decide) (htb _ k1_166) (fun _ h9 => h9) rfl hin rfl (by decide +kernel) rfl rfl (Nat.le_of_ble_eq_true rfl) dF_init_102 (fun H locs hP hD hS => ?_)
      have hP : va_P D vwCl [(a, .inr (5, [.int (cl3 a1), .int (cl2 a3), .ref q1, .int (tE a2 (cN (cl3 a1))), .ref q2, .int 0, .null, .int 0, .null, .null, .null])), (q1, .inl (ca 0, 7, .inl (fun k => if k < cN (cl3 a1) then wE a2 (nI k) else 0))), (q2, rfA (ca 2) 60 (fun _ => none))] H := hP
      have hD : va_D A [(a, .inr (5, [.int (cl3 a1), .int (cl2 a3), .ref q1, .int (tE a2 (cN (cl3 a1))), .ref q2, .int 0, .null, .int 0, .null, .null, .null])), (q1, .inl (ca 0, 7, .inl (fun k => if k < cN (cl3 a1) then wE a2 (nI k) else 0))), (q2, rfA (ca 2) 60 (fun _ => none))] := hD
      refine lv_iconst (v := 0) hx hb dF_init_105 (by decide) ?_
      refine lv_istore (lv' := [(5, .int 0), (4, .int (tE a2 v)), (0, .ref a), (2, .int a2)]) hx hb dF_init_106 hl (by decide) rfl (fun ls hl => ?_)
      have e3 : [(a, .inr (5, [.int (cl3 a1), .int (cl2 a3), .ref q1, .int (tE a2 (cN (cl3 a1))), .ref q2, .int 0, .null, .int 0, .null, .null, .null])), (q1, .inl (ca 0, 7, .inl (fun k => if k < cN (cl3 a1) then wE a2 (nI k) else 0))), (q2, rfA (ca 2) 60 (fun _ => none))] = gw (3 + 6 * 0) (fT ca (fun j => [a, q1, q2].getD j 0) (xI0 (cl3 a1) (cl2 a3) a2) xJ0 [.int (cl3 a1), .int (cl2 a3), .ref q1, .int (tE a2 (cN (cl3 a1))), .ref q2, .int 0, .null, .int 0, .null, .null, .null] 0 0 0) := by
        have e : (fun _ => none) = (fun b => if b < 0 then some ((fun j => [a, q1, q2].getD j 0) (3 + 6 * b)) else none) := by
          funext b
          rw [if_neg (by omega)]
        rw [e]
        rfl
      rw [e3] at hP hD
      refine W.widen (k := 2 + 6 * 0) (n := 67 + 31 * 0) (Nat.le_of_ble_eq_true rfl) (Nat.le_of_ble_eq_true rfl) ?_
      exact keyB q1 q2 60 0 _ H locs ls (by omega) rfl rfl rfl hP hD hS (lv_sub hl [0, 2] rfl)
    | succ k ih =>
      intro v f H locs ls hv hf hP hD hS hl
      refine lv_iload hx hb dF_init_45 (lv_at hl 0 rfl) ?_
      refine lv_aload_n hx hb dF_init_47 rfl (lv_at hl 2 rfl) ?_
      refine va_get (D := D) (ci := 5) (v := .int (cl3 a1)) (C := RF) (T := TF) (N := 11) hx hb htb inF hown hK hP 0 rfl rfl 0 (by decide) (htb _ k1_162) (fun _ h9 => h9) rfl dF_init_48 ?_
      refine lv_icmp_ge (tgt := 90) hx hb dF_init_51 (by decide) (fun hc => absurd (by rw [en] at hc; exact hc) (nI_ge (a := v) (b := n) (by omega) (by omega))) (fun hc => ?_)
      refine lv_aload_n hx hb dF_init_54 rfl (lv_at hl 2 rfl) ?_
      refine va_get (D := D) (ci := 5) (v := .ref q1) (C := RF) (T := TF) (N := 11) hx hb htb inF hown hK hP 0 rfl rfl 2 (by decide) (htb _ k1_164) (fun _ h9 => h9) rfl dF_init_55 ?_
      refine lv_iload hx hb dF_init_58 (lv_at hl 0 rfl) ?_
      refine lv_iconst (v := 1) hx hb dF_init_60 (by decide) ?_
      refine lv_iload_n hx hb dF_init_61 rfl (lv_at hl 3 rfl) ?_
      refine lv_iconst (v := 4) hx hb dF_init_62 (by decide) ?_
      refine lv_iload hx hb dF_init_63 (lv_at hl 0 rfl) ?_
      refine lv_imul hx hb dF_init_65 ?_
      refine lv_iushr (v := ((a2.toUInt32 >>> ((4 * nI v).toUInt32 &&& Int32.toUInt32 31)).toInt32)) hx hb dF_init_66 rfl ?_
      refine lv_bipush (v := 15) hx hb dF_init_67 (by decide) ?_
      refine lv_iand hx hb dF_init_69 ?_
      refine lv_iadd hx hb dF_init_70 ?_
      refine va_iast hx hb hK hP hD hS 1 0 rfl rfl (i7_of (v := v) (by omega)) dF_init_71 (fun H locs hP hD hS => ?_)
      rw [show (nI v).toNatClampNeg = v from nI_clamp (by omega)] at hP hD
      have hP : va_P D vwCl [(a, .inr (5, [.int (cl3 a1), .int (cl2 a3), .ref q1, .int 0, .null, .int 0, .null, .int 0, .null, .null, .null])), (q1, .inl (ca 0, 7, .inl (upd f v (wE a2 (nI v)))))] H := hP
      have hD : va_D A [(a, .inr (5, [.int (cl3 a1), .int (cl2 a3), .ref q1, .int 0, .null, .int 0, .null, .int 0, .null, .null, .null])), (q1, .inl (ca 0, 7, .inl (upd f v (wE a2 (nI v)))))] := hD
      refine lv_iload hx hb dF_init_72 (lv_at hl 1 rfl) ?_
      refine lv_aload_n hx hb dF_init_74 rfl (lv_at hl 2 rfl) ?_
      refine va_get (D := D) (ci := 5) (v := .ref q1) (C := RF) (T := TF) (N := 11) hx hb htb inF hown hK hP 0 rfl rfl 2 (by decide) (htb _ k1_164) (fun _ h9 => h9) rfl dF_init_75 ?_
      refine lv_iload hx hb dF_init_78 (lv_at hl 0 rfl) ?_
      refine va_iald hx hb hK hP 1 0 rfl rfl (i7_of (v := v) (by omega)) dF_init_80 ?_
      rw [show (nI v).toNatClampNeg = v from nI_clamp (by omega), pk_us]
      refine lv_iadd hx hb dF_init_81 ?_
      refine lv_istore (lv' := [(4, .int (tE a2 v + wE a2 (nI v))), (5, .int (nI v)), (0, .ref a), (2, .int a2)]) hx hb dF_init_82 hl (by decide) rfl (fun ls hl => ?_)
      refine lv_iinc (k := 1) (v := nI v + 1) (lv' := [(5, .int (nI v + 1)), (4, .int (tE a2 v + wE a2 (nI v))), (0, .ref a), (2, .int a2)]) hx hb dF_init_84 hl rfl (by rfl) (by decide) rfl (fun ls hl => ?_)
      rw [nI_1] at hl
      refine lv_goto (tgt := 45) hx hb dF_init_87 (by decide) ?_
      refine ih (v + 1) _ H locs ls (by omega) ?_ hP hD hS hl
      funext w
      unfold upd
      rw [hf]
      by_cases e : w = v
      · rw [if_pos e, if_pos (by omega), e]
      · rw [if_neg e]
        show (if w < v then wE a2 (nI w) else 0) = _
        by_cases g : w < v
        · rw [if_pos g, if_pos (by omega)]
        · rw [if_neg g, if_neg (by omega)]
  refine lv_aload_n hx hb dF_init_0 rfl (lv_at hl 0 rfl) ?_
  refine W.objInit hx hb hown (htb _ k1_15) (htb _ k1_16) (htb _ k1_17) rfl (by rw [hml]; exact hl.1) rfl dF_init_1 (Nat.le_of_ble_eq_true rfl) (Nat.le_of_ble_eq_true rfl) ?_
  refine W.eq (g2 := F0 m 4 ls []) rfl ?_
  refine lv_aload_n hx hb dF_init_4 rfl (lv_at hl 0 rfl) ?_
  refine lv_iconst (v := 3) hx hb dF_init_5 (by decide) ?_
  refine lv_bipush (v := 7) hx hb dF_init_6 (by decide) ?_
  refine lv_iload_n hx hb dF_init_8 rfl (lv_at hl 1 rfl) ?_
  refine va_mmin hx hb (by rw [hml]; exact hl.1.symm) hown (htb _ k1_18) (htb _ k1_19) (htb _ k1_2) (htb _ k1_20) (Nat.le_of_ble_eq_true rfl) (Nat.le_of_ble_eq_true rfl) (Nat.le_of_ble_eq_true rfl) (Nat.le_of_ble_eq_true rfl) dF_init_9 ?_
  refine va_mmax hx hb (by rw [hml]; exact hl.1.symm) hown (htb _ k1_21) (htb _ k1_22) (htb _ k1_2) (htb _ k1_23) (Nat.le_of_ble_eq_true rfl) (Nat.le_of_ble_eq_true rfl) (Nat.le_of_ble_eq_true rfl) (Nat.le_of_ble_eq_true rfl) dF_init_12 ?_
  rw [mm3]
  refine va_putF (D := D) (ci := 5) (v := .int (cl3 a1)) (ty := .int) (C := RF) (T := TF) (N := 11) hx hb htb inF tyF tyF_ok nmF hown hK hP hD hS 0 rfl rfl 0 (by decide) (htb _ k1_162) (fun _ h9 => h9) rfl hin rfl (by decide +kernel) rfl rfl (Nat.le_of_ble_eq_true rfl) dF_init_15 (fun H locs hP hD hS => ?_)
  have hP : va_P D vwCl [(a, .inr (5, [.int (cl3 a1), .int 0, .null, .int 0, .null, .int 0, .null, .int 0, .null, .null, .null]))] H := hP
  have hD : va_D A [(a, .inr (5, [.int (cl3 a1), .int 0, .null, .int 0, .null, .int 0, .null, .int 0, .null, .null, .null]))] := hD
  refine lv_aload_n hx hb dF_init_18 rfl (lv_at hl 0 rfl) ?_
  refine lv_iconst (v := 2) hx hb dF_init_19 (by decide) ?_
  refine lv_iconst (v := 5) hx hb dF_init_20 (by decide) ?_
  refine lv_iload_n hx hb dF_init_21 rfl (lv_at hl 3 rfl) ?_
  refine va_mmin hx hb (by rw [hml]; exact hl.1.symm) hown (htb _ k1_18) (htb _ k1_19) (htb _ k1_2) (htb _ k1_20) (Nat.le_of_ble_eq_true rfl) (Nat.le_of_ble_eq_true rfl) (Nat.le_of_ble_eq_true rfl) (Nat.le_of_ble_eq_true rfl) dF_init_22 ?_
  refine va_mmax hx hb (by rw [hml]; exact hl.1.symm) hown (htb _ k1_21) (htb _ k1_22) (htb _ k1_2) (htb _ k1_23) (Nat.le_of_ble_eq_true rfl) (Nat.le_of_ble_eq_true rfl) (Nat.le_of_ble_eq_true rfl) (Nat.le_of_ble_eq_true rfl) dF_init_25 ?_
  rw [mm2]
  refine va_putF (D := D) (ci := 5) (v := .int (cl2 a3)) (ty := .int) (C := RF) (T := TF) (N := 11) hx hb htb inF tyF tyF_ok nmF hown hK hP hD hS 0 rfl rfl 1 (by decide) (htb _ k1_163) (fun _ h9 => h9) rfl hin rfl (by decide +kernel) rfl rfl (Nat.le_of_ble_eq_true rfl) dF_init_28 (fun H locs hP hD hS => ?_)
  have hP : va_P D vwCl [(a, .inr (5, [.int (cl3 a1), .int (cl2 a3), .null, .int 0, .null, .int 0, .null, .int 0, .null, .null, .null]))] H := hP
  have hD : va_D A [(a, .inr (5, [.int (cl3 a1), .int (cl2 a3), .null, .int 0, .null, .int 0, .null, .int 0, .null, .null, .null]))] := hD
  refine lv_aload_n hx hb dF_init_31 rfl (lv_at hl 0 rfl) ?_
  refine lv_bipush (v := 7) hx hb dF_init_32 (by decide) ?_
  refine mr_newa (atype := .int) (a0 := (7, .inl (fun _ => 0))) hx hb (htb _ k1_50) rfl hK hP hD hS hA 0 rfl (fun _ => rfl) (by decide) rfl (by decide) (Nat.le_of_ble_eq_true rfl) (Nat.le_of_ble_eq_true rfl) dF_init_34 (fun q1 H hP hD hS => ?_)
  have hP : va_P D vwCl [(a, .inr (5, [.int (cl3 a1), .int (cl2 a3), .null, .int 0, .null, .int 0, .null, .int 0, .null, .null, .null])), (q1, .inl (ca 0, 7, .inl (fun _ => 0)))] H := hP
  have hD : va_D A [(a, .inr (5, [.int (cl3 a1), .int (cl2 a3), .null, .int 0, .null, .int 0, .null, .int 0, .null, .null, .null])), (q1, .inl (ca 0, 7, .inl (fun _ => 0)))] := hD
  refine va_putF (D := D) (ci := 5) (v := .ref q1) (ty := (.array .int)) (C := RF) (T := TF) (N := 11) hx hb htb inF tyF tyF_ok nmF hown hK hP hD hS 0 rfl rfl 2 (by decide) (htb _ k1_164) (fun _ h9 => h9) rfl hin rfl (by decide +kernel) rfl rfl (Nat.le_of_ble_eq_true rfl) dF_init_36 (fun H locs hP hD hS => ?_)
  have hP : va_P D vwCl [(a, .inr (5, [.int (cl3 a1), .int (cl2 a3), .ref q1, .int 0, .null, .int 0, .null, .int 0, .null, .null, .null])), (q1, .inl (ca 0, 7, .inl (fun _ => 0)))] H := hP
  have hD : va_D A [(a, .inr (5, [.int (cl3 a1), .int (cl2 a3), .ref q1, .int 0, .null, .int 0, .null, .int 0, .null, .null, .null])), (q1, .inl (ca 0, 7, .inl (fun _ => 0)))] := hD
  refine lv_iconst (v := 0) hx hb dF_init_39 (by decide) ?_
  refine lv_istore (lv' := [(4, .int 0), (0, .ref a), (1, .int a1), (2, .int a2), (3, .int a3)]) hx hb dF_init_40 hl (by decide) rfl (fun ls hl => ?_)
  refine lv_iconst (v := 0) hx hb dF_init_42 (by decide) ?_
  refine lv_istore (lv' := [(5, .int 0), (4, .int 0), (0, .ref a), (1, .int a1), (2, .int a2), (3, .int a3)]) hx hb dF_init_43 hl (by decide) rfl (fun ls hl => ?_)
  exact key0 q1 n 0 (fun _ => 0) H _ ls (by omega) (by funext w; rw [if_neg (by omega)]) hP hD hS (lv_sub hl [0, 1, 2, 4] rfl)
