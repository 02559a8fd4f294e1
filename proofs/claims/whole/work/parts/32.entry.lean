-- what the entry gives
theorem law_N {s : State} {args : Array Value} (hts : ∀ w ∈ lw_tbl, w.before args s = true) : mNW nL s := by
  intro q hq
  simp only [nL, List.mem_cons, List.mem_nil_iff, or_false] at hq
  rcases hq with rfl | rfl | rfl | rfl | rfl | rfl | rfl
  · exact va_Nw.of rfl (hts _ (tb_1 (List.mem_of_getElem? (i := 27) rfl)))
  · exact va_Nw.of rfl (hts _ (tb_1 (List.mem_of_getElem? (i := 33) rfl)))
  · exact va_Nw.of rfl (hts _ (tb_1 (List.mem_of_getElem? (i := 109) rfl)))
  · exact va_Nw.of rfl (hts _ (tb_1 (List.mem_of_getElem? (i := 159) rfl)))
  · exact va_Nw.of rfl (hts _ (tb_2 (List.mem_of_getElem? (i := 10) rfl)))
  · exact va_Nw.of rfl (hts _ (tb_2 (List.mem_of_getElem? (i := 33) rfl)))
  · exact va_Nw.of rfl (hts _ (tb_2 (List.mem_of_getElem? (i := 58) rfl)))
theorem law_AB {s : State} {args : Array Value} (hts : ∀ w ∈ lw_tbl, w.before args s = true) : va_AO "FinalityTree$Block" s := va_AO.of (A := args) (hts _ (tb_1 (List.mem_of_getElem? (i := 25) rfl)))
theorem law_AV {s : State} {args : Array Value} (hts : ∀ w ∈ lw_tbl, w.before args s = true) : va_AO "FinalityTree$Vote" s := va_AO.of (A := args) (hts _ (tb_1 (List.mem_of_getElem? (i := 107) rfl)))
theorem law_AN {s : State} {args : Array Value} (hts : ∀ w ∈ lw_tbl, w.before args s = true) : va_AO "FinalityTree$Node" s := va_AO.of (A := args) (hts _ (tb_1 (List.mem_of_getElem? (i := 132) rfl)))
set_option maxHeartbeats 4000000 in
theorem law_K {s : State} {args : Array Value} (htb : ∀ w ∈ wb, w.before args s = true) (hB : va_AO "FinalityTree$Block" s) (hV : va_AO "FinalityTree$Vote" s) (hN : va_AO "FinalityTree$Node" s) : ∃ (D : va_G) (ca : Nat → Nat), va_K D vwCl (xty ca) s := by
  obtain ⟨c0, i0, h0⟩ := u_known (C := RB) (T := TB) (N := 6) htb inB (htb _ k1_26)
  obtain ⟨c1, i1, h1⟩ := u_known (C := RI) (T := TI) (N := 3) htb inI (htb _ k1_32)
  obtain ⟨c2, i2, h2⟩ := u_known (C := RN) (T := TN) (N := 5) htb inN (htb _ k1_133)
  obtain ⟨c3, i3, h3⟩ := u_known (C := RS) (T := TS) (N := 7) htb inS (htb _ k1_52)
  obtain ⟨c4, i4, h4⟩ := u_known (C := RV) (T := TV) (N := 5) htb inV (htb _ k1_108)
  obtain ⟨c5, i5, h5⟩ := u_known (C := RF) (T := TF) (N := 11) htb inF (htb _ k1_11)
  obtain ⟨c6, i6, h6⟩ := u_known (C := RM) (T := TM) (N := 33) htb inM (htb _ k2_167)
  obtain ⟨e0, k0, p0, f0, g0, t0⟩ := Cond.arrayClass_spec (htb _ k1_50)
  obtain ⟨e1, k1, p1, f1, g1, t1⟩ := Cond.arrayClass_spec (htb _ k1_157)
  obtain ⟨p2, e2, k2, r2, -, g2, t2, f2⟩ := Cond.arrayOver_spec hB
  obtain ⟨p3, e3, k3, r3, -, g3, t3, f3⟩ := Cond.arrayOver_spec hV
  obtain ⟨p4, e4, k4, r4, -, g4, t4, f4⟩ := Cond.arrayOver_spec hN
  refine ⟨(fun k => match k with | 0 => c0 | 1 => c1 | 2 => c2 | 3 => c3 | 4 => c4 | 5 => c5 | _ => c6, fun k => match k with | 0 => i0 | 1 => i1 | 2 => i2 | 3 => i3 | 4 => i4 | 5 => i5 | _ => i6), fun k => match k with | 0 => e0 | 1 => e1 | 2 => e2 | 3 => e3 | _ => e4, fun c q hq => ?_, fun k q hk => ?_⟩
  · have hc : c < 7 := (List.getElem?_eq_some_iff.mp hq).1
    rcases (show c = 0 ∨ c = 1 ∨ c = 2 ∨ c = 3 ∨ c = 4 ∨ c = 5 ∨ c = 6 by omega) with rfl | rfl | rfl | rfl | rfl | rfl | rfl
    · cases hq; exact h0
    · cases hq; exact h1
    · cases hq; exact h2
    · cases hq; exact h3
    · cases hq; exact h4
    · cases hq; exact h5
    · cases hq; exact h6
  · have hc : k < 5 := (List.getElem?_eq_some_iff.mp hk).1
    rcases (show k = 0 ∨ k = 1 ∨ k = 2 ∨ k = 3 ∨ k = 4 by omega) with rfl | rfl | rfl | rfl | rfl
    · cases hk; exact ⟨fun n z => ⟨fun k h => (by cases h), k0, g0, p0, t0⟩, f0⟩
    · cases hk; exact ⟨fun n z => ⟨fun k h => (by cases h), k1, g1, p1, t1⟩, f1⟩
    · cases hk; exact ⟨fun n z => ⟨fun k h => (by cases h), k2, g2, p2, t2⟩, k2, p2, g2, t2, r2, f2⟩
    · cases hk; exact ⟨fun n z => ⟨fun k h => (by cases h), k3, g3, p3, t3⟩, k3, p3, g3, t3, r3, f3⟩
    · cases hk; exact ⟨fun n z => ⟨fun k h => (by cases h), k4, g4, p4, t4⟩, k4, p4, g4, t4, r4, f4⟩
def cV (L : Nat) (xs : Nat → Int32) (i : Nat) : Int32 := if i < L then xs i else 0
set_option maxHeartbeats 4000000 in
set_option maxRecDepth 100000 in
theorem C_L_cell (l : Launch) (b L : Nat) (xs : Nat → Int32) (hL : L ≤ 2051) (i : Nat) (hi : i < 2051) : Met l yL_cell wL_cell ({ frames := 0, cells := 0, slots := 0, locals := 0 } : Room) (va_Pc [.ref b, .int (nI i)] (fun U => va_X b L xs U U.heap)) (va_Qi (S := Unit) (fun r _ => r = cV L xs i) (fun _ _ => True) (fun _ => False)) 0 0 (fun _ => False) := by
  refine Met.ofW (cc := cL_cell) (maxL := 2) (ret := (some .int)) (by decide) rfl ?_
  intro p e s m args below meth c s₁ B hml hv
  obtain ⟨rfl, hX⟩ := hv
  have hx := B.exec
  have hb := B.bytes
  have hr := B.returns
  have hlk := B.notSynchronized
  have hbl : b < s.heap.size := by
    obtain ⟨scr, h1, -⟩ := hX
    exact (Array.getElem?_eq_some_iff.mp h1).1
  have hS : va_S (fun _ => False) s.heap s.heap [] := va_S.rf
  have hl := lv_entry ([.ref b, .int (nI i)]) (n := 2) (Nat.le_of_ble_eq_true rfl)
  rw [lg_entry_eq]
  generalize (lg_sl ([.ref b, .int (nI i)]) ++ List.replicate (2 - (lg_sl ([.ref b, .int (nI i)])).length) Slot.unset).toArray = ls at hl ⊢
  have hl : lv_has ls 2 [(0, .ref b), (1, .int (nI i))] := hl
  refine lv_iload_n hx hb dL_cell_0 rfl (lv_at hl 1 rfl) ?_
  refine lv_aload_n hx hb dL_cell_1 rfl (lv_at hl 0 rfl) ?_
  refine va_slen hx hb hX hbl (fun h => h) hS dL_cell_2 ?_
  refine lv_icmp_ge (tgt := 12) hx hb dL_cell_3 (by decide) (fun hc => ?_) (fun hc => ?_)
  · refine lv_iconst (v := 0) hx hb dL_cell_12 (by decide) ?_
    have e : cV L xs i = 0 := if_neg (fun z => nI_ge z (by omega) hc)
    exact W.iret hx hb hr (fun t ht hW => ⟨⟨0, (), rfl, e.symm, trivial⟩, hS.F ht⟩) hS.2.2 dL_cell_13 hlk
  · have hil : i < L := Nat.not_le.mp (fun z => hc (nI_le z (by omega)))
    refine lv_aload_n hx hb dL_cell_6 rfl (lv_at hl 0 rfl) ?_
    refine lv_iload_n hx hb dL_cell_7 rfl (lv_at hl 1 rfl) ?_
    refine va_sld hx hb hX hbl (fun h => h) hS (vp_in_nI hil (by omega)) dL_cell_8 ?_
    refine lv_goto (tgt := 13) hx hb dL_cell_9 (by decide) ?_
    have e : cV L xs i = xs i := if_pos hil
    rw [show (nI i).toNatClampNeg = i from nI_clamp (by omega), ← e]
    exact W.iret hx hb hr (fun t ht hW => ⟨⟨cV L xs i, (), rfl, rfl, trivial⟩, hS.F ht⟩) hS.2.2 dL_cell_13 hlk
