section LC
variable {p : Program} {l : Launch} {e : Env} {R : Room} {s : State} {m : MethodId} {args : Array Value} {below : List Frame} {meth : Method} {c : Code} {H H0 : Heap} {locs : List Loc} {cells slots : Nat} {Q : State → Prop} {pc : Nat} {ls : Array Slot} {rest st0 : List Value} {a : Array Value} {D : va_G} {A : Nat → Prop} {N : Nat} {ad : Nat → Nat} {mk : mMk} {I0 : mI} {J0 : mJ}
theorem lw_c {post : Int32 → mI → mJ → Prop} {w : va_W} (hr : va_Run p l e R s m args below meth c H locs cells slots 0 0 (F0 m pc ls st0) rest (mQi D vwCl N ad mk post a) (mA N ad)) (hD : va_D A (mw N ad mk I0 J0)) (hP2 : va_P D vwCl w H) (hw : ∀ (k : Nat) (q : Nat × va_E), w[k]? = some q → ¬ mA N ad q.1) (hS : va_S A H0 H locs)
    (kk : ∀ (r : Int32) (I' : mI) (J' : mJ) (H1 : Heap) (locs1 : List Loc), post r I' J' → va_P D vwCl (mw N ad mk I' J') H1 → va_P D vwCl w H1 → va_S A H0 H1 locs1 → W p l e R s m args below meth c H1 locs1 cells slots Q (F0 m (pc + 3) ls (.int r :: rest))) : W p l e R s m args below meth c H locs cells slots Q (F0 m pc ls st0) := by
  have hF : ∀ q, mA N ad q → A q := fun q h => by
    obtain ⟨j, hj, rfl⟩ := h
    exact hD.2 j _ (mw_get hj)
  exact va_calli hr hS (fun q _ h => hF q h) hF (fun r u t H1 locs1 ht _ hp hB hz hk hS1 => kk r u.1 u.2 H1 locs1 hp (by rw [← ht]; exact hB) (hP2.kept (fun k q hq => hk q.1 (hP2 k q hq).lt (hw k q hq))) hS1)
end LC
theorem lw_lt {i L : Nat} (hi : i ≤ 4000) (hL : L ≤ 2051) : nI L - 4 < nI i ↔ L < i + 4 := by
  rw [Int32.lt_iff_toInt_lt, nI_toInt (n := i) (by omega)]
  have e : (nI L - 4).toInt = (L : Int) - 4 := by
    by_cases h : 4 ≤ L
    · obtain ⟨k, rfl⟩ : ∃ k, L = k + 4 := ⟨L - 4, by omega⟩
      rw [← nI_add, show (4 : Int32) = nI 4 from rfl, Int32.add_sub_cancel, nI_toInt (by omega)]
      omega
    · rcases (show L = 0 ∨ L = 1 ∨ L = 2 ∨ L = 3 by omega) with rfl | rfl | rfl | rfl <;> decide
  rw [e]
  omega
set_option maxHeartbeats 8000000 in
set_option maxRecDepth 100000 in
theorem lw_loop {p : Program} {e : Env} {s : State} {m : MethodId} {below : List Frame} {meth : Method} {c : Code} (l : Launch) {b L : Nat} {xs : Nat → Int32} (hL : L ≤ 2051) (hx : p.tables.exec = Jvm.exec) (hb : c.code = code) (hr : meth.sig.returnType = ret) (hml : c.maxLocals = 4) (hown : s.vm.findClass R_law = some m.cls) (htb : ∀ w ∈ wb, w.before #[Value.ref b] s = true) (hX : va_X b L xs s s.heap) (hbl : b < s.heap.size) (hlk : meth.locks = false) {D : va_G} {ca ad bd : Nat → Nat} (hK : va_K D vwCl (xty ca) s) (hN : mNW nL s) {A : Nat → Prop} (hAe : A = fun q => s.heap.size ≤ q) {I01 I02 : mI} {J01 J02 : mJ} (hD1 : va_D A (mw 459 ad (xmk ca ad) I01 J01)) (hD2 : va_D A (mw 23 bd (ymk ca bd) I02 J02)) (hdis : ∀ i j, i < 459 → j < 23 → ad i ≠ bd j) : ∀ (k i : Nat) (S I1 : mI) (J1 : mJ) (I2 : mI) (J2 : mJ) (H : Heap) (locs : List Loc) (ls : Array Slot), L ≤ i + k → i ≤ L + 4 → XR S I1 J1 → YR S I2 → va_P D vwCl (mw 459 ad (xmk ca ad) I1 J1) H → va_P D vwCl (mw 23 bd (ymk ca bd) I2 J2) H → va_S A s.heap H locs → lv_has ls 4 [(3, .int (nI i)), (2, .ref (bd 0)), (1, .ref (ad 0)), (0, .ref b)] → W p l e room_1 s m #[Value.ref b] below meth c H locs 482 4266 (lw_Z below #[Value.ref b] s) (F0 m 48 ls []) := by
  have hbA : ¬ A b := fun h => by rw [hAe] at h; exact absurd hbl (Nat.not_lt.mpr h)
  have hw2 : ∀ (I2 : mI) (J2 : mJ) (k : Nat) (q : Nat × va_E), (mw 23 bd (ymk ca bd) I2 J2)[k]? = some q → ¬ mA 459 ad q.1 := fun I2 J2 k q hq h => by
    have hk : k < 23 := by
      have := (List.getElem?_eq_some_iff.mp hq).1
      rw [mw_len] at this
      exact this
    rw [mw_get hk] at hq
    obtain ⟨j, hj, e⟩ := h
    cases hq
    exact hdis j k hj hk e.symm
  have hw1 : ∀ (I1 : mI) (J1 : mJ) (k : Nat) (q : Nat × va_E), (mw 459 ad (xmk ca ad) I1 J1)[k]? = some q → ¬ mA 23 bd q.1 := fun I1 J1 k q hq h => by
    have hk : k < 459 := by
      have := (List.getElem?_eq_some_iff.mp hq).1
      rw [mw_len] at this
      exact this
    rw [mw_get hk] at hq
    obtain ⟨j, hj, e⟩ := h
    cases hq
    exact hdis k j hk hj e
  have hw2 := fun {I2 : mI} {J2 : mJ} => hw2 I2 J2
  have hw1 := fun {I1 : mI} {J1 : mJ} => hw1 I1 J1
  have fin : ∀ (H : Heap) (locs : List Loc) (ls : Array Slot), va_S A s.heap H locs → W p l e room_1 s m #[Value.ref b] below meth c H locs 482 4266 (lw_Z below #[Value.ref b] s) (F0 m 724 ls []) := by
    intro H locs ls hS
    refine lv_iconst (v := 1) hx hb dW_724 (by decide) ?_
    refine W.widen (k := 614882) (n := 7257603) (Nat.le_of_ble_eq_true rfl) (Nat.le_of_ble_eq_true rfl) ?_
    refine va_forget (fun q hq => by have := hS.2.2 q hq; rw [hAe] at this; exact this) ?_
    exact lw_ret hx hb hr hlk dW_725
  intro k
  induction k with
  | zero =>
    intro i S I1 J1 I2 J2 H locs ls hk hi4 hX1 hY2 hP1 hP2 hS hl
    refine lv_iload_n hx hb dW_48 rfl (lv_at hl 0 rfl) ?_
    refine lv_aload_n hx hb dW_49 rfl (lv_at hl 3 rfl) ?_
    refine va_slen hx hb hX hbl hbA hS dW_50 ?_
    refine lv_iconst (v := 4) hx hb dW_51 (by decide) ?_
    refine lv_isub hx hb dW_52 ?_
    exact lv_icmp_gt (tgt := 724) hx hb dW_53 (by decide) (fun _ => fin H locs ls hS) (fun hc => absurd ((lw_lt (by omega) hL).mpr (by omega)) hc)
  | succ k ih =>
    intro i S I1 J1 I2 J2 H locs ls hk hi4 hX1 hY2 hP1 hP2 hS hl
    refine lv_iload_n hx hb dW_48 rfl (lv_at hl 0 rfl) ?_
    refine lv_aload_n hx hb dW_49 rfl (lv_at hl 3 rfl) ?_
    refine va_slen hx hb hX hbl hbA hS dW_50 ?_
    refine lv_iconst (v := 4) hx hb dW_51 (by decide) ?_
    refine lv_isub hx hb dW_52 ?_
    refine lv_icmp_gt (tgt := 724) hx hb dW_53 (by decide) (fun _ => fin H locs ls hS) (fun hc => ?_)
    have hiL : i + 4 ≤ L := Nat.not_lt.mp (fun z => hc ((lw_lt (by omega) hL).mpr z))
    have next : ∀ (S I1 : mI) (J1 : mJ) (I2 : mI) (J2 : mJ) (H : Heap) (locs : List Loc) (ls : Array Slot), XR S I1 J1 → YR S I2 → va_P D vwCl (mw 459 ad (xmk ca ad) I1 J1) H → va_P D vwCl (mw 23 bd (ymk ca bd) I2 J2) H → va_S A s.heap H locs → lv_has ls 4 [(3, .int (nI i)), (2, .ref (bd 0)), (1, .ref (ad 0)), (0, .ref b)] → W p l e room_1 s m #[Value.ref b] below meth c H locs 482 4266 (lw_Z below #[Value.ref b] s) (F0 m 718 ls []) := by
      intro S I1 J1 I2 J2 H locs ls hX1 hY2 hP1 hP2 hS hl
      refine lv_iinc (k := 0) (v := nI i + 4) (lv' := [(3, .int (nI i + 4)), (2, .ref (bd 0)), (1, .ref (ad 0)), (0, .ref b)]) hx hb dW_718 hl rfl (by rfl) (by decide) rfl (fun ls hl => ?_)
      rw [show nI i + 4 = nI (i + 4) from nI_add i 4] at hl
      refine lv_goto (tgt := 48) hx hb dW_721 (by decide) ?_
      exact ih (i + 4) S I1 J1 I2 J2 H locs ls (by omega) (by omega) hX1 hY2 hP1 hP2 hS hl
    refine lv_aload_n hx hb dW_56 rfl (lv_at hl 3 rfl) ?_
    refine lv_iload_n hx hb dW_57 rfl (lv_at hl 0 rfl) ?_
    refine va_sld hx hb hX hbl hbA hS (vp_in_nI (show i < L by omega) (by omega)) dW_58 ?_
    refine lv_bipush (v := 31) hx hb dW_59 (by decide) ?_
    refine lv_iand hx hb dW_61 ?_
    generalize xs (nI i).toNatClampNeg &&& 31 = x
    by_cases hc0 : x = 0
    · refine lv_tableIn (off := 86) (tgt := 148) hx hb dW_62 (by rw [hc0]; decide) (by rw [hc0]; decide) (by rw [hc0]; rfl) (by decide) ?_
      refine lv_aload_n hx hb dW_148 rfl (lv_at hl 2 rfl) ?_
      refine lv_aload_n hx hb dW_149 rfl (lv_at hl 3 rfl) ?_
      refine lv_iload_n hx hb dW_150 rfl (lv_at hl 0 rfl) ?_
      refine lv_iconst (v := 1) hx hb dW_151 (by decide) ?_
      refine lv_iadd hx hb dW_152 ?_
      rw [show nI i + 1 = nI (i + 1) from nI_add i 1]
      refine va_sld hx hb hX hbl hbA hS (vp_in_nI (show i + 1 < L by omega) (by omega)) dW_153 ?_
      rw [show (nI (i + 1)).toNatClampNeg = i + 1 from nI_clamp (by omega)]
      refine lv_aload_n hx hb dW_154 rfl (lv_at hl 3 rfl) ?_
      refine lv_iload_n hx hb dW_155 rfl (lv_at hl 0 rfl) ?_
      refine lv_iconst (v := 2) hx hb dW_156 (by decide) ?_
      refine lv_iadd hx hb dW_157 ?_
      rw [show nI i + 2 = nI (i + 2) from nI_add i 2]
      refine va_sld hx hb hX hbl hbA hS (vp_in_nI (show i + 2 < L by omega) (by omega)) dW_158 ?_
      rw [show (nI (i + 2)).toNatClampNeg = i + 2 from nI_clamp (by omega)]
      refine lv_aload_n hx hb dW_159 rfl (lv_at hl 3 rfl) ?_
      refine lv_iload_n hx hb dW_160 rfl (lv_at hl 0 rfl) ?_
      refine lv_iconst (v := 3) hx hb dW_161 (by decide) ?_
      refine lv_iadd hx hb dW_162 ?_
      rw [show nI i + 3 = nI (i + 3) from nI_add i 3]
      refine va_sld hx hb hX hbl hbA hS (vp_in_nI (show i + 3 < L by omega) (by omega)) dW_163 ?_
      rw [show (nI (i + 3)).toNatClampNeg = i + 3 from nI_clamp (by omega)]
      refine lw_c (va_runV (As := [.int (xs (i + 1)), .int (xs (i + 2)), .int (xs (i + 3))]) (rest := []) ⟨hx, hb, hml, hown, htb⟩ (C_F_vote l D ca ad S I1 J1 (xs (i + 1)) (xs (i + 2)) (xs (i + 3)) hX1) (cwV 3 htb (gd_v k1_196 k1_197 k1_198 k1_1 k1_199) rfl rfl rfl (by decide +kernel) ⟨Nat.le_of_ble_eq_true rfl, Nat.le_of_ble_eq_true rfl⟩) (mPre_V hK hP1 hD1 hN rfl (mw_at (by decide) (xm_F (show xk 0 = 0 from rfl) _ _))) rfl rfl hl.1 rfl (lv_room (Nat.le_of_ble_eq_true rfl)) dW_164 ⟨Nat.le_of_ble_eq_true rfl, Nat.le_of_ble_eq_true rfl⟩) hD1 hP2 hw2 hS (fun r1 I1' J1' H locs hq hP1 hP2 hS => ?_)
      obtain ⟨hr1, hX1'⟩ := hq
      refine lv_aload_n hx hb dW_167 rfl (lv_at hl 1 rfl) ?_
      refine lv_aload_n hx hb dW_168 rfl (lv_at hl 3 rfl) ?_
      refine lv_iload_n hx hb dW_169 rfl (lv_at hl 0 rfl) ?_
      refine lv_iconst (v := 1) hx hb dW_170 (by decide) ?_
      refine lv_iadd hx hb dW_171 ?_
      rw [show nI i + 1 = nI (i + 1) from nI_add i 1]
      refine va_sld hx hb hX hbl hbA hS (vp_in_nI (show i + 1 < L by omega) (by omega)) dW_172 ?_
      rw [show (nI (i + 1)).toNatClampNeg = i + 1 from nI_clamp (by omega)]
      refine lv_aload_n hx hb dW_173 rfl (lv_at hl 3 rfl) ?_
      refine lv_iload_n hx hb dW_174 rfl (lv_at hl 0 rfl) ?_
      refine lv_iconst (v := 2) hx hb dW_175 (by decide) ?_
      refine lv_iadd hx hb dW_176 ?_
      rw [show nI i + 2 = nI (i + 2) from nI_add i 2]
      refine va_sld hx hb hX hbl hbA hS (vp_in_nI (show i + 2 < L by omega) (by omega)) dW_177 ?_
      rw [show (nI (i + 2)).toNatClampNeg = i + 2 from nI_clamp (by omega)]
      refine lv_aload_n hx hb dW_178 rfl (lv_at hl 3 rfl) ?_
      refine lv_iload_n hx hb dW_179 rfl (lv_at hl 0 rfl) ?_
      refine lv_iconst (v := 3) hx hb dW_180 (by decide) ?_
      refine lv_iadd hx hb dW_181 ?_
      rw [show nI i + 3 = nI (i + 3) from nI_add i 3]
      refine va_sld hx hb hX hbl hbA hS (vp_in_nI (show i + 3 < L by omega) (by omega)) dW_182 ?_
      rw [show (nI (i + 3)).toNatClampNeg = i + 3 from nI_clamp (by omega)]
      refine lw_c (va_runV (As := [.int (xs (i + 1)), .int (xs (i + 2)), .int (xs (i + 3))]) (rest := [.int r1]) ⟨hx, hb, hml, hown, htb⟩ (C_M_vote l D ca bd S I2 J2 (xs (i + 1)) (xs (i + 2)) (xs (i + 3)) hY2) (cwV 3 htb (gd_v k3_32 k3_33 k3_34 k1_8 k3_35) rfl rfl rfl (by decide +kernel) ⟨Nat.le_of_ble_eq_true rfl, Nat.le_of_ble_eq_true rfl⟩) (mPre_V hK hP2 hD2 hN rfl (mw_at (by decide) (ym_0 _ _ _ _))) rfl rfl hl.1 rfl (lv_room (Nat.le_of_ble_eq_true rfl)) dW_183 ⟨Nat.le_of_ble_eq_true rfl, Nat.le_of_ble_eq_true rfl⟩) hD2 hP1 hw1 hS (fun r2 I2' J2' H locs hq hP2 hP1 hS => ?_)
      obtain ⟨hr2, hY2'⟩ := hq
      exact lv_icmp_eq (tgt := 718) hx hb dW_186 (by decide) (fun _ => next _ _ _ _ _ H locs ls hX1' ⟨hX1'.1, hY2'⟩ hP1 hP2 hS hl) (fun hne => absurd (hr1.trans hr2.symm) hne)
    by_cases hc1 : x = 1
    · refine lv_tableIn (off := 129) (tgt := 191) hx hb dW_62 (by rw [hc1]; decide) (by rw [hc1]; decide) (by rw [hc1]; rfl) (by decide) ?_
      refine lv_aload_n hx hb dW_191 rfl (lv_at hl 2 rfl) ?_
      refine lv_aload_n hx hb dW_192 rfl (lv_at hl 3 rfl) ?_
      refine lv_iload_n hx hb dW_193 rfl (lv_at hl 0 rfl) ?_
      refine lv_iconst (v := 1) hx hb dW_194 (by decide) ?_
      refine lv_iadd hx hb dW_195 ?_
      rw [show nI i + 1 = nI (i + 1) from nI_add i 1]
      refine va_sld hx hb hX hbl hbA hS (vp_in_nI (show i + 1 < L by omega) (by omega)) dW_196 ?_
      rw [show (nI (i + 1)).toNatClampNeg = i + 1 from nI_clamp (by omega)]
      refine lw_c (va_runV (As := [.int (xs (i + 1))]) (rest := []) ⟨hx, hb, hml, hown, htb⟩ (C_F_include l D ca ad S I1 J1 (xs (i + 1)) hX1) (cwV 1 htb (gd_v k1_226 k1_227 k1_228 k1_1 k1_229) rfl rfl rfl (by decide +kernel) ⟨Nat.le_of_ble_eq_true rfl, Nat.le_of_ble_eq_true rfl⟩) (mPre_V hK hP1 hD1 hN rfl (mw_at (by decide) (xm_F (show xk 0 = 0 from rfl) _ _))) rfl rfl hl.1 rfl (lv_room (Nat.le_of_ble_eq_true rfl)) dW_197 ⟨Nat.le_of_ble_eq_true rfl, Nat.le_of_ble_eq_true rfl⟩) hD1 hP2 hw2 hS (fun r1 I1' J1' H locs hq hP1 hP2 hS => ?_)
      obtain ⟨hr1, hX1'⟩ := hq
      refine lv_aload_n hx hb dW_200 rfl (lv_at hl 1 rfl) ?_
      refine lv_aload_n hx hb dW_201 rfl (lv_at hl 3 rfl) ?_
      refine lv_iload_n hx hb dW_202 rfl (lv_at hl 0 rfl) ?_
      refine lv_iconst (v := 1) hx hb dW_203 (by decide) ?_
      refine lv_iadd hx hb dW_204 ?_
      rw [show nI i + 1 = nI (i + 1) from nI_add i 1]
      refine va_sld hx hb hX hbl hbA hS (vp_in_nI (show i + 1 < L by omega) (by omega)) dW_205 ?_
      rw [show (nI (i + 1)).toNatClampNeg = i + 1 from nI_clamp (by omega)]
      refine lw_c (va_runV (As := [.int (xs (i + 1))]) (rest := [.int r1]) ⟨hx, hb, hml, hown, htb⟩ (C_M_include l D ca bd S I2 J2 (xs (i + 1)) hY2) (cwV 1 htb (gd_v k3_83 k3_84 k3_85 k1_8 k3_86) rfl rfl rfl (by decide +kernel) ⟨Nat.le_of_ble_eq_true rfl, Nat.le_of_ble_eq_true rfl⟩) (mPre_V hK hP2 hD2 hN rfl (mw_at (by decide) (ym_0 _ _ _ _))) rfl rfl hl.1 rfl (lv_room (Nat.le_of_ble_eq_true rfl)) dW_206 ⟨Nat.le_of_ble_eq_true rfl, Nat.le_of_ble_eq_true rfl⟩) hD2 hP1 hw1 hS (fun r2 I2' J2' H locs hq hP2 hP1 hS => ?_)
      obtain ⟨hr2, hY2'⟩ := hq
      exact lv_icmp_eq (tgt := 718) hx hb dW_209 (by decide) (fun _ => next _ _ _ _ _ H locs ls hX1' ⟨hX1'.1, hY2'⟩ hP1 hP2 hS hl) (fun hne => absurd (hr1.trans hr2.symm) hne)
    by_cases hc2 : x = 2
    · refine lv_tableIn (off := 152) (tgt := 214) hx hb dW_62 (by rw [hc2]; decide) (by rw [hc2]; decide) (by rw [hc2]; rfl) (by decide) ?_
      refine lv_aload_n hx hb dW_214 rfl (lv_at hl 2 rfl) ?_
      refine lv_aload_n hx hb dW_215 rfl (lv_at hl 3 rfl) ?_
      refine lv_iload_n hx hb dW_216 rfl (lv_at hl 0 rfl) ?_
      refine lv_iconst (v := 1) hx hb dW_217 (by decide) ?_
      refine lv_iadd hx hb dW_218 ?_
      rw [show nI i + 1 = nI (i + 1) from nI_add i 1]
      refine va_sld hx hb hX hbl hbA hS (vp_in_nI (show i + 1 < L by omega) (by omega)) dW_219 ?_
      rw [show (nI (i + 1)).toNatClampNeg = i + 1 from nI_clamp (by omega)]
      refine lv_aload_n hx hb dW_220 rfl (lv_at hl 3 rfl) ?_
      refine lv_iload_n hx hb dW_221 rfl (lv_at hl 0 rfl) ?_
      refine lv_iconst (v := 2) hx hb dW_222 (by decide) ?_
      refine lv_iadd hx hb dW_223 ?_
      rw [show nI i + 2 = nI (i + 2) from nI_add i 2]
      refine va_sld hx hb hX hbl hbA hS (vp_in_nI (show i + 2 < L by omega) (by omega)) dW_224 ?_
      rw [show (nI (i + 2)).toNatClampNeg = i + 2 from nI_clamp (by omega)]
      refine lw_c (va_runV (As := [.int (xs (i + 1)), .int (xs (i + 2))]) (rest := []) ⟨hx, hb, hml, hown, htb⟩ (C_F_accuse l D ca ad S I1 J1 (xs (i + 1)) (xs (i + 2)) hX1) (cwV 2 htb (gd_v k1_238 k1_239 k2_0 k1_1 k2_1) rfl rfl rfl (by decide +kernel) ⟨Nat.le_of_ble_eq_true rfl, Nat.le_of_ble_eq_true rfl⟩) (mPre_V hK hP1 hD1 hN rfl (mw_at (by decide) (xm_F (show xk 0 = 0 from rfl) _ _))) rfl rfl hl.1 rfl (lv_room (Nat.le_of_ble_eq_true rfl)) dW_225 ⟨Nat.le_of_ble_eq_true rfl, Nat.le_of_ble_eq_true rfl⟩) hD1 hP2 hw2 hS (fun r1 I1' J1' H locs hq hP1 hP2 hS => ?_)
      obtain ⟨hr1, hX1'⟩ := hq
      refine lv_aload_n hx hb dW_228 rfl (lv_at hl 1 rfl) ?_
      refine lv_aload_n hx hb dW_229 rfl (lv_at hl 3 rfl) ?_
      refine lv_iload_n hx hb dW_230 rfl (lv_at hl 0 rfl) ?_
      refine lv_iconst (v := 1) hx hb dW_231 (by decide) ?_
      refine lv_iadd hx hb dW_232 ?_
      rw [show nI i + 1 = nI (i + 1) from nI_add i 1]
      refine va_sld hx hb hX hbl hbA hS (vp_in_nI (show i + 1 < L by omega) (by omega)) dW_233 ?_
      rw [show (nI (i + 1)).toNatClampNeg = i + 1 from nI_clamp (by omega)]
      refine lv_aload_n hx hb dW_234 rfl (lv_at hl 3 rfl) ?_
      refine lv_iload_n hx hb dW_235 rfl (lv_at hl 0 rfl) ?_
      refine lv_iconst (v := 2) hx hb dW_236 (by decide) ?_
      refine lv_iadd hx hb dW_237 ?_
      rw [show nI i + 2 = nI (i + 2) from nI_add i 2]
      refine va_sld hx hb hX hbl hbA hS (vp_in_nI (show i + 2 < L by omega) (by omega)) dW_238 ?_
      rw [show (nI (i + 2)).toNatClampNeg = i + 2 from nI_clamp (by omega)]
      refine lw_c (va_runV (As := [.int (xs (i + 1)), .int (xs (i + 2))]) (rest := [.int r1]) ⟨hx, hb, hml, hown, htb⟩ (C_M_accuse l D ca bd S I2 J2 (xs (i + 1)) (xs (i + 2)) hY2) (cwV 2 htb (gd_v k3_95 k3_96 k3_97 k1_8 k3_98) rfl rfl rfl (by decide +kernel) ⟨Nat.le_of_ble_eq_true rfl, Nat.le_of_ble_eq_true rfl⟩) (mPre_V hK hP2 hD2 hN rfl (mw_at (by decide) (ym_0 _ _ _ _))) rfl rfl hl.1 rfl (lv_room (Nat.le_of_ble_eq_true rfl)) dW_239 ⟨Nat.le_of_ble_eq_true rfl, Nat.le_of_ble_eq_true rfl⟩) hD2 hP1 hw1 hS (fun r2 I2' J2' H locs hq hP2 hP1 hS => ?_)
      obtain ⟨hr2, hY2'⟩ := hq
      exact lv_icmp_eq (tgt := 718) hx hb dW_242 (by decide) (fun _ => next _ _ _ _ _ H locs ls hX1' ⟨hX1'.1, hY2'⟩ hP1 hP2 hS hl) (fun hne => absurd (hr1.trans hr2.symm) hne)
    by_cases hc3 : x = 3
    · refine lv_tableIn (off := 185) (tgt := 247) hx hb dW_62 (by rw [hc3]; decide) (by rw [hc3]; decide) (by rw [hc3]; rfl) (by decide) ?_
      refine lv_aload_n hx hb dW_247 rfl (lv_at hl 2 rfl) ?_
      refine lw_c (va_runV (As := []) (rest := []) ⟨hx, hb, hml, hown, htb⟩ (C_F_clear l D ca ad S I1 J1  hX1) (cwV 0 htb (gd_v k2_11 k2_12 k2_13 k1_1 k2_14) rfl rfl rfl (by decide +kernel) ⟨Nat.le_of_ble_eq_true rfl, Nat.le_of_ble_eq_true rfl⟩) (mPre_V hK hP1 hD1 hN rfl (mw_at (by decide) (xm_F (show xk 0 = 0 from rfl) _ _))) rfl rfl hl.1 rfl (lv_room (Nat.le_of_ble_eq_true rfl)) dW_248 ⟨Nat.le_of_ble_eq_true rfl, Nat.le_of_ble_eq_true rfl⟩) hD1 hP2 hw2 hS (fun r1 I1' J1' H locs hq hP1 hP2 hS => ?_)
      obtain ⟨hr1, hX1'⟩ := hq
      refine lv_aload_n hx hb dW_251 rfl (lv_at hl 1 rfl) ?_
      refine lw_c (va_runV (As := []) (rest := [.int r1]) ⟨hx, hb, hml, hown, htb⟩ (C_M_clear l D ca bd S I2 J2  hY2) (cwV 0 htb (gd_v k3_103 k3_104 k3_105 k1_8 k3_106) rfl rfl rfl (by decide +kernel) ⟨Nat.le_of_ble_eq_true rfl, Nat.le_of_ble_eq_true rfl⟩) (mPre_V hK hP2 hD2 hN rfl (mw_at (by decide) (ym_0 _ _ _ _))) rfl rfl hl.1 rfl (lv_room (Nat.le_of_ble_eq_true rfl)) dW_252 ⟨Nat.le_of_ble_eq_true rfl, Nat.le_of_ble_eq_true rfl⟩) hD2 hP1 hw1 hS (fun r2 I2' J2' H locs hq hP2 hP1 hS => ?_)
      obtain ⟨hr2, hY2'⟩ := hq
      exact lv_icmp_eq (tgt := 718) hx hb dW_255 (by decide) (fun _ => next _ _ _ _ _ H locs ls hX1' ⟨hX1'.1, hY2'⟩ hP1 hP2 hS hl) (fun hne => absurd (hr1.trans hr2.symm) hne)
    by_cases hc4 : x = 4
    · refine lv_tableIn (off := 198) (tgt := 260) hx hb dW_62 (by rw [hc4]; decide) (by rw [hc4]; decide) (by rw [hc4]; rfl) (by decide) ?_
      refine lv_aload_n hx hb dW_260 rfl (lv_at hl 2 rfl) ?_
      refine lv_aload_n hx hb dW_261 rfl (lv_at hl 3 rfl) ?_
      refine lv_iload_n hx hb dW_262 rfl (lv_at hl 0 rfl) ?_
      refine lv_iconst (v := 1) hx hb dW_263 (by decide) ?_
      refine lv_iadd hx hb dW_264 ?_
      rw [show nI i + 1 = nI (i + 1) from nI_add i 1]
      refine va_sld hx hb hX hbl hbA hS (vp_in_nI (show i + 1 < L by omega) (by omega)) dW_265 ?_
      rw [show (nI (i + 1)).toNatClampNeg = i + 1 from nI_clamp (by omega)]
      refine lv_aload_n hx hb dW_266 rfl (lv_at hl 3 rfl) ?_
      refine lv_iload_n hx hb dW_267 rfl (lv_at hl 0 rfl) ?_
      refine lv_iconst (v := 2) hx hb dW_268 (by decide) ?_
      refine lv_iadd hx hb dW_269 ?_
      rw [show nI i + 2 = nI (i + 2) from nI_add i 2]
      refine va_sld hx hb hX hbl hbA hS (vp_in_nI (show i + 2 < L by omega) (by omega)) dW_270 ?_
      rw [show (nI (i + 2)).toNatClampNeg = i + 2 from nI_clamp (by omega)]
      refine lw_c (va_runV (As := [.int (xs (i + 1)), .int (xs (i + 2))]) (rest := []) ⟨hx, hb, hml, hown, htb⟩ (C_F_propose l D ca ad S I1 J1 (xs (i + 1)) (xs (i + 2)) hX1) (cwV 2 htb (gd_v k2_15 k2_16 k2_17 k1_1 k2_18) rfl rfl rfl (by decide +kernel) ⟨Nat.le_of_ble_eq_true rfl, Nat.le_of_ble_eq_true rfl⟩) (mPre_V hK hP1 hD1 hN rfl (mw_at (by decide) (xm_F (show xk 0 = 0 from rfl) _ _))) rfl rfl hl.1 rfl (lv_room (Nat.le_of_ble_eq_true rfl)) dW_271 ⟨Nat.le_of_ble_eq_true rfl, Nat.le_of_ble_eq_true rfl⟩) hD1 hP2 hw2 hS (fun r1 I1' J1' H locs hq hP1 hP2 hS => ?_)
      obtain ⟨hr1, hX1'⟩ := hq
      refine lv_aload_n hx hb dW_274 rfl (lv_at hl 1 rfl) ?_
      refine lv_aload_n hx hb dW_275 rfl (lv_at hl 3 rfl) ?_
      refine lv_iload_n hx hb dW_276 rfl (lv_at hl 0 rfl) ?_
      refine lv_iconst (v := 1) hx hb dW_277 (by decide) ?_
      refine lv_iadd hx hb dW_278 ?_
      rw [show nI i + 1 = nI (i + 1) from nI_add i 1]
      refine va_sld hx hb hX hbl hbA hS (vp_in_nI (show i + 1 < L by omega) (by omega)) dW_279 ?_
      rw [show (nI (i + 1)).toNatClampNeg = i + 1 from nI_clamp (by omega)]
      refine lv_aload_n hx hb dW_280 rfl (lv_at hl 3 rfl) ?_
      refine lv_iload_n hx hb dW_281 rfl (lv_at hl 0 rfl) ?_
      refine lv_iconst (v := 2) hx hb dW_282 (by decide) ?_
      refine lv_iadd hx hb dW_283 ?_
      rw [show nI i + 2 = nI (i + 2) from nI_add i 2]
      refine va_sld hx hb hX hbl hbA hS (vp_in_nI (show i + 2 < L by omega) (by omega)) dW_284 ?_
      rw [show (nI (i + 2)).toNatClampNeg = i + 2 from nI_clamp (by omega)]
      refine lw_c (va_runV (As := [.int (xs (i + 1)), .int (xs (i + 2))]) (rest := [.int r1]) ⟨hx, hb, hml, hown, htb⟩ (C_M_propose l D ca bd S I2 J2 (xs (i + 1)) (xs (i + 2)) hY2) (cwV 2 htb (gd_v k3_107 k3_108 k3_109 k1_8 k3_110) rfl rfl rfl (by decide +kernel) ⟨Nat.le_of_ble_eq_true rfl, Nat.le_of_ble_eq_true rfl⟩) (mPre_V hK hP2 hD2 hN rfl (mw_at (by decide) (ym_0 _ _ _ _))) rfl rfl hl.1 rfl (lv_room (Nat.le_of_ble_eq_true rfl)) dW_285 ⟨Nat.le_of_ble_eq_true rfl, Nat.le_of_ble_eq_true rfl⟩) hD2 hP1 hw1 hS (fun r2 I2' J2' H locs hq hP2 hP1 hS => ?_)
      obtain ⟨hr2, hY2'⟩ := hq
      exact lv_icmp_eq (tgt := 718) hx hb dW_288 (by decide) (fun _ => next _ _ _ _ _ H locs ls hX1' ⟨hX1'.1, hY2'⟩ hP1 hP2 hS hl) (fun hne => absurd (hr1.trans hr2.symm) hne)
    by_cases hc5 : x = 5
    · refine lv_tableIn (off := 231) (tgt := 293) hx hb dW_62 (by rw [hc5]; decide) (by rw [hc5]; decide) (by rw [hc5]; rfl) (by decide) ?_
      refine lv_aload_n hx hb dW_293 rfl (lv_at hl 2 rfl) ?_
      refine lv_aload_n hx hb dW_294 rfl (lv_at hl 3 rfl) ?_
      refine lv_iload_n hx hb dW_295 rfl (lv_at hl 0 rfl) ?_
      refine lv_iconst (v := 1) hx hb dW_296 (by decide) ?_
      refine lv_iadd hx hb dW_297 ?_
      rw [show nI i + 1 = nI (i + 1) from nI_add i 1]
      refine va_sld hx hb hX hbl hbA hS (vp_in_nI (show i + 1 < L by omega) (by omega)) dW_298 ?_
      rw [show (nI (i + 1)).toNatClampNeg = i + 1 from nI_clamp (by omega)]
      refine lv_aload_n hx hb dW_299 rfl (lv_at hl 3 rfl) ?_
      refine lv_iload_n hx hb dW_300 rfl (lv_at hl 0 rfl) ?_
      refine lv_iconst (v := 2) hx hb dW_301 (by decide) ?_
      refine lv_iadd hx hb dW_302 ?_
      rw [show nI i + 2 = nI (i + 2) from nI_add i 2]
      refine va_sld hx hb hX hbl hbA hS (vp_in_nI (show i + 2 < L by omega) (by omega)) dW_303 ?_
      rw [show (nI (i + 2)).toNatClampNeg = i + 2 from nI_clamp (by omega)]
      refine lw_c (va_runV (As := [.int (xs (i + 1)), .int (xs (i + 2))]) (rest := []) ⟨hx, hb, hml, hown, htb⟩ (C_F_block l D ca ad S I1 J1 (xs (i + 1)) (xs (i + 2)) hX1) (cwV 2 htb (gd_v k2_68 k2_69 k2_70 k1_1 k2_71) rfl rfl rfl (by decide +kernel) ⟨Nat.le_of_ble_eq_true rfl, Nat.le_of_ble_eq_true rfl⟩) (mPre_V hK hP1 hD1 hN rfl (mw_at (by decide) (xm_F (show xk 0 = 0 from rfl) _ _))) rfl rfl hl.1 rfl (lv_room (Nat.le_of_ble_eq_true rfl)) dW_304 ⟨Nat.le_of_ble_eq_true rfl, Nat.le_of_ble_eq_true rfl⟩) hD1 hP2 hw2 hS (fun r1 I1' J1' H locs hq hP1 hP2 hS => ?_)
      obtain ⟨hr1, eI, eJ⟩ := hq
      rw [eI, eJ] at hP1
      refine lv_aload_n hx hb dW_307 rfl (lv_at hl 1 rfl) ?_
      refine lv_aload_n hx hb dW_308 rfl (lv_at hl 3 rfl) ?_
      refine lv_iload_n hx hb dW_309 rfl (lv_at hl 0 rfl) ?_
      refine lv_iconst (v := 1) hx hb dW_310 (by decide) ?_
      refine lv_iadd hx hb dW_311 ?_
      rw [show nI i + 1 = nI (i + 1) from nI_add i 1]
      refine va_sld hx hb hX hbl hbA hS (vp_in_nI (show i + 1 < L by omega) (by omega)) dW_312 ?_
      rw [show (nI (i + 1)).toNatClampNeg = i + 1 from nI_clamp (by omega)]
      refine lv_aload_n hx hb dW_313 rfl (lv_at hl 3 rfl) ?_
      refine lv_iload_n hx hb dW_314 rfl (lv_at hl 0 rfl) ?_
      refine lv_iconst (v := 2) hx hb dW_315 (by decide) ?_
      refine lv_iadd hx hb dW_316 ?_
      rw [show nI i + 2 = nI (i + 2) from nI_add i 2]
      refine va_sld hx hb hX hbl hbA hS (vp_in_nI (show i + 2 < L by omega) (by omega)) dW_317 ?_
      rw [show (nI (i + 2)).toNatClampNeg = i + 2 from nI_clamp (by omega)]
      refine lw_c (va_runV (As := [.int (xs (i + 1)), .int (xs (i + 2))]) (rest := [.int r1]) ⟨hx, hb, hml, hown, htb⟩ (C_M_block l D ca bd S I2 J2 (xs (i + 1)) (xs (i + 2)) hY2) (cwV 2 htb (gd_v k3_111 k3_112 k3_113 k1_8 k3_114) rfl rfl rfl (by decide +kernel) ⟨Nat.le_of_ble_eq_true rfl, Nat.le_of_ble_eq_true rfl⟩) (mPre_V hK hP2 hD2 hN rfl (mw_at (by decide) (ym_0 _ _ _ _))) rfl rfl hl.1 rfl (lv_room (Nat.le_of_ble_eq_true rfl)) dW_318 ⟨Nat.le_of_ble_eq_true rfl, Nat.le_of_ble_eq_true rfl⟩) hD2 hP1 hw1 hS (fun r2 I2' J2' H locs hq hP2 hP1 hS => ?_)
      obtain ⟨hr2, hY2'⟩ := hq
      exact lv_icmp_eq (tgt := 718) hx hb dW_321 (by decide) (fun _ => next _ _ _ _ _ H locs ls hX1 ⟨hX1.1, hY2'⟩ hP1 hP2 hS hl) (fun hne => absurd (hr1.trans hr2.symm) hne)
    by_cases hc6 : x = 6
    · refine lv_tableIn (off := 264) (tgt := 326) hx hb dW_62 (by rw [hc6]; decide) (by rw [hc6]; decide) (by rw [hc6]; rfl) (by decide) ?_
      refine lv_aload_n hx hb dW_326 rfl (lv_at hl 2 rfl) ?_
      refine lv_aload_n hx hb dW_327 rfl (lv_at hl 3 rfl) ?_
      refine lv_iload_n hx hb dW_328 rfl (lv_at hl 0 rfl) ?_
      refine lv_iconst (v := 1) hx hb dW_329 (by decide) ?_
      refine lv_iadd hx hb dW_330 ?_
      rw [show nI i + 1 = nI (i + 1) from nI_add i 1]
      refine va_sld hx hb hX hbl hbA hS (vp_in_nI (show i + 1 < L by omega) (by omega)) dW_331 ?_
      rw [show (nI (i + 1)).toNatClampNeg = i + 1 from nI_clamp (by omega)]
      refine lv_aload_n hx hb dW_332 rfl (lv_at hl 3 rfl) ?_
      refine lv_iload_n hx hb dW_333 rfl (lv_at hl 0 rfl) ?_
      refine lv_iconst (v := 2) hx hb dW_334 (by decide) ?_
      refine lv_iadd hx hb dW_335 ?_
      rw [show nI i + 2 = nI (i + 2) from nI_add i 2]
      refine va_sld hx hb hX hbl hbA hS (vp_in_nI (show i + 2 < L by omega) (by omega)) dW_336 ?_
      rw [show (nI (i + 2)).toNatClampNeg = i + 2 from nI_clamp (by omega)]
      refine lw_c (va_runV (As := [.int (xs (i + 1)), .int (xs (i + 2))]) (rest := []) ⟨hx, hb, hml, hown, htb⟩ (C_F_balance l D ca ad S I1 J1 (xs (i + 1)) (xs (i + 2)) hX1) (cwV 2 htb (gd_v k2_75 k2_76 k2_77 k1_1 k2_78) rfl rfl rfl (by decide +kernel) ⟨Nat.le_of_ble_eq_true rfl, Nat.le_of_ble_eq_true rfl⟩) (mPre_V hK hP1 hD1 hN rfl (mw_at (by decide) (xm_F (show xk 0 = 0 from rfl) _ _))) rfl rfl hl.1 rfl (lv_room (Nat.le_of_ble_eq_true rfl)) dW_337 ⟨Nat.le_of_ble_eq_true rfl, Nat.le_of_ble_eq_true rfl⟩) hD1 hP2 hw2 hS (fun r1 I1' J1' H locs hq hP1 hP2 hS => ?_)
      obtain ⟨hr1, eI, eJ⟩ := hq
      rw [eI, eJ] at hP1
      refine lv_aload_n hx hb dW_340 rfl (lv_at hl 1 rfl) ?_
      refine lv_aload_n hx hb dW_341 rfl (lv_at hl 3 rfl) ?_
      refine lv_iload_n hx hb dW_342 rfl (lv_at hl 0 rfl) ?_
      refine lv_iconst (v := 1) hx hb dW_343 (by decide) ?_
      refine lv_iadd hx hb dW_344 ?_
      rw [show nI i + 1 = nI (i + 1) from nI_add i 1]
      refine va_sld hx hb hX hbl hbA hS (vp_in_nI (show i + 1 < L by omega) (by omega)) dW_345 ?_
      rw [show (nI (i + 1)).toNatClampNeg = i + 1 from nI_clamp (by omega)]
      refine lv_aload_n hx hb dW_346 rfl (lv_at hl 3 rfl) ?_
      refine lv_iload_n hx hb dW_347 rfl (lv_at hl 0 rfl) ?_
      refine lv_iconst (v := 2) hx hb dW_348 (by decide) ?_
      refine lv_iadd hx hb dW_349 ?_
      rw [show nI i + 2 = nI (i + 2) from nI_add i 2]
      refine va_sld hx hb hX hbl hbA hS (vp_in_nI (show i + 2 < L by omega) (by omega)) dW_350 ?_
      rw [show (nI (i + 2)).toNatClampNeg = i + 2 from nI_clamp (by omega)]
      refine lw_c (va_runV (As := [.int (xs (i + 1)), .int (xs (i + 2))]) (rest := [.int r1]) ⟨hx, hb, hml, hown, htb⟩ (C_M_balance l D ca bd S I2 J2 (xs (i + 1)) (xs (i + 2)) hY2) (cwV 2 htb (gd_v k3_115 k3_116 k3_117 k1_8 k3_118) rfl rfl rfl (by decide +kernel) ⟨Nat.le_of_ble_eq_true rfl, Nat.le_of_ble_eq_true rfl⟩) (mPre_V hK hP2 hD2 hN rfl (mw_at (by decide) (ym_0 _ _ _ _))) rfl rfl hl.1 rfl (lv_room (Nat.le_of_ble_eq_true rfl)) dW_351 ⟨Nat.le_of_ble_eq_true rfl, Nat.le_of_ble_eq_true rfl⟩) hD2 hP1 hw1 hS (fun r2 I2' J2' H locs hq hP2 hP1 hS => ?_)
      obtain ⟨hr2, hY2'⟩ := hq
      exact lv_icmp_eq (tgt := 718) hx hb dW_354 (by decide) (fun _ => next _ _ _ _ _ H locs ls hX1 ⟨hX1.1, hY2'⟩ hP1 hP2 hS hl) (fun hne => absurd (hr1.trans hr2.symm) hne)
    by_cases hc7 : x = 7
    · refine lv_tableIn (off := 297) (tgt := 359) hx hb dW_62 (by rw [hc7]; decide) (by rw [hc7]; decide) (by rw [hc7]; rfl) (by decide) ?_
      refine lv_aload_n hx hb dW_359 rfl (lv_at hl 2 rfl) ?_
      refine lv_aload_n hx hb dW_360 rfl (lv_at hl 3 rfl) ?_
      refine lv_iload_n hx hb dW_361 rfl (lv_at hl 0 rfl) ?_
      refine lv_iconst (v := 1) hx hb dW_362 (by decide) ?_
      refine lv_iadd hx hb dW_363 ?_
      rw [show nI i + 1 = nI (i + 1) from nI_add i 1]
      refine va_sld hx hb hX hbl hbA hS (vp_in_nI (show i + 1 < L by omega) (by omega)) dW_364 ?_
      rw [show (nI (i + 1)).toNatClampNeg = i + 1 from nI_clamp (by omega)]
      refine lv_aload_n hx hb dW_365 rfl (lv_at hl 3 rfl) ?_
      refine lv_iload_n hx hb dW_366 rfl (lv_at hl 0 rfl) ?_
      refine lv_iconst (v := 2) hx hb dW_367 (by decide) ?_
      refine lv_iadd hx hb dW_368 ?_
      rw [show nI i + 2 = nI (i + 2) from nI_add i 2]
      refine va_sld hx hb hX hbl hbA hS (vp_in_nI (show i + 2 < L by omega) (by omega)) dW_369 ?_
      rw [show (nI (i + 2)).toNatClampNeg = i + 2 from nI_clamp (by omega)]
      refine lw_c (va_runV (As := [.int (xs (i + 1)), .int (xs (i + 2))]) (rest := []) ⟨hx, hb, hml, hown, htb⟩ (C_F_punished l D ca ad S I1 J1 (xs (i + 1)) (xs (i + 2)) hX1) (cwV 2 htb (gd_v k2_79 k2_80 k2_81 k1_1 k2_82) rfl rfl rfl (by decide +kernel) ⟨Nat.le_of_ble_eq_true rfl, Nat.le_of_ble_eq_true rfl⟩) (mPre_V hK hP1 hD1 hN rfl (mw_at (by decide) (xm_F (show xk 0 = 0 from rfl) _ _))) rfl rfl hl.1 rfl (lv_room (Nat.le_of_ble_eq_true rfl)) dW_370 ⟨Nat.le_of_ble_eq_true rfl, Nat.le_of_ble_eq_true rfl⟩) hD1 hP2 hw2 hS (fun r1 I1' J1' H locs hq hP1 hP2 hS => ?_)
      obtain ⟨hr1, eI, eJ⟩ := hq
      rw [eI, eJ] at hP1
      refine lv_aload_n hx hb dW_373 rfl (lv_at hl 1 rfl) ?_
      refine lv_aload_n hx hb dW_374 rfl (lv_at hl 3 rfl) ?_
      refine lv_iload_n hx hb dW_375 rfl (lv_at hl 0 rfl) ?_
      refine lv_iconst (v := 1) hx hb dW_376 (by decide) ?_
      refine lv_iadd hx hb dW_377 ?_
      rw [show nI i + 1 = nI (i + 1) from nI_add i 1]
      refine va_sld hx hb hX hbl hbA hS (vp_in_nI (show i + 1 < L by omega) (by omega)) dW_378 ?_
      rw [show (nI (i + 1)).toNatClampNeg = i + 1 from nI_clamp (by omega)]
      refine lv_aload_n hx hb dW_379 rfl (lv_at hl 3 rfl) ?_
      refine lv_iload_n hx hb dW_380 rfl (lv_at hl 0 rfl) ?_
      refine lv_iconst (v := 2) hx hb dW_381 (by decide) ?_
      refine lv_iadd hx hb dW_382 ?_
      rw [show nI i + 2 = nI (i + 2) from nI_add i 2]
      refine va_sld hx hb hX hbl hbA hS (vp_in_nI (show i + 2 < L by omega) (by omega)) dW_383 ?_
      rw [show (nI (i + 2)).toNatClampNeg = i + 2 from nI_clamp (by omega)]
      refine lw_c (va_runV (As := [.int (xs (i + 1)), .int (xs (i + 2))]) (rest := [.int r1]) ⟨hx, hb, hml, hown, htb⟩ (C_M_punished l D ca bd S I2 J2 (xs (i + 1)) (xs (i + 2)) hY2) (cwV 2 htb (gd_v k3_119 k3_120 k3_121 k1_8 k3_122) rfl rfl rfl (by decide +kernel) ⟨Nat.le_of_ble_eq_true rfl, Nat.le_of_ble_eq_true rfl⟩) (mPre_V hK hP2 hD2 hN rfl (mw_at (by decide) (ym_0 _ _ _ _))) rfl rfl hl.1 rfl (lv_room (Nat.le_of_ble_eq_true rfl)) dW_384 ⟨Nat.le_of_ble_eq_true rfl, Nat.le_of_ble_eq_true rfl⟩) hD2 hP1 hw1 hS (fun r2 I2' J2' H locs hq hP2 hP1 hS => ?_)
      obtain ⟨hr2, hY2'⟩ := hq
      exact lv_icmp_eq (tgt := 718) hx hb dW_387 (by decide) (fun _ => next _ _ _ _ _ H locs ls hX1 ⟨hX1.1, hY2'⟩ hP1 hP2 hS hl) (fun hne => absurd (hr1.trans hr2.symm) hne)
    by_cases hc8 : x = 8
    · refine lv_tableIn (off := 330) (tgt := 392) hx hb dW_62 (by rw [hc8]; decide) (by rw [hc8]; decide) (by rw [hc8]; rfl) (by decide) ?_
      refine lv_aload_n hx hb dW_392 rfl (lv_at hl 2 rfl) ?_
      refine lv_aload_n hx hb dW_393 rfl (lv_at hl 3 rfl) ?_
      refine lv_iload_n hx hb dW_394 rfl (lv_at hl 0 rfl) ?_
      refine lv_iconst (v := 1) hx hb dW_395 (by decide) ?_
      refine lv_iadd hx hb dW_396 ?_
      rw [show nI i + 1 = nI (i + 1) from nI_add i 1]
      refine va_sld hx hb hX hbl hbA hS (vp_in_nI (show i + 1 < L by omega) (by omega)) dW_397 ?_
      rw [show (nI (i + 1)).toNatClampNeg = i + 1 from nI_clamp (by omega)]
      refine lv_aload_n hx hb dW_398 rfl (lv_at hl 3 rfl) ?_
      refine lv_iload_n hx hb dW_399 rfl (lv_at hl 0 rfl) ?_
      refine lv_iconst (v := 2) hx hb dW_400 (by decide) ?_
      refine lv_iadd hx hb dW_401 ?_
      rw [show nI i + 2 = nI (i + 2) from nI_add i 2]
      refine va_sld hx hb hX hbl hbA hS (vp_in_nI (show i + 2 < L by omega) (by omega)) dW_402 ?_
      rw [show (nI (i + 2)).toNatClampNeg = i + 2 from nI_clamp (by omega)]
      refine lw_c (va_runV (As := [.int (xs (i + 1)), .int (xs (i + 2))]) (rest := []) ⟨hx, hb, hml, hown, htb⟩ (C_F_counted l D ca ad S I1 J1 (xs (i + 1)) (xs (i + 2)) hX1) (cwV 2 htb (gd_v k2_83 k2_84 k2_85 k1_1 k2_86) rfl rfl rfl (by decide +kernel) ⟨Nat.le_of_ble_eq_true rfl, Nat.le_of_ble_eq_true rfl⟩) (mPre_V hK hP1 hD1 hN rfl (mw_at (by decide) (xm_F (show xk 0 = 0 from rfl) _ _))) rfl rfl hl.1 rfl (lv_room (Nat.le_of_ble_eq_true rfl)) dW_403 ⟨Nat.le_of_ble_eq_true rfl, Nat.le_of_ble_eq_true rfl⟩) hD1 hP2 hw2 hS (fun r1 I1' J1' H locs hq hP1 hP2 hS => ?_)
      obtain ⟨hr1, eI, eJ⟩ := hq
      rw [eI, eJ] at hP1
      refine lv_aload_n hx hb dW_406 rfl (lv_at hl 1 rfl) ?_
      refine lv_aload_n hx hb dW_407 rfl (lv_at hl 3 rfl) ?_
      refine lv_iload_n hx hb dW_408 rfl (lv_at hl 0 rfl) ?_
      refine lv_iconst (v := 1) hx hb dW_409 (by decide) ?_
      refine lv_iadd hx hb dW_410 ?_
      rw [show nI i + 1 = nI (i + 1) from nI_add i 1]
      refine va_sld hx hb hX hbl hbA hS (vp_in_nI (show i + 1 < L by omega) (by omega)) dW_411 ?_
      rw [show (nI (i + 1)).toNatClampNeg = i + 1 from nI_clamp (by omega)]
      refine lv_aload_n hx hb dW_412 rfl (lv_at hl 3 rfl) ?_
      refine lv_iload_n hx hb dW_413 rfl (lv_at hl 0 rfl) ?_
      refine lv_iconst (v := 2) hx hb dW_414 (by decide) ?_
      refine lv_iadd hx hb dW_415 ?_
      rw [show nI i + 2 = nI (i + 2) from nI_add i 2]
      refine va_sld hx hb hX hbl hbA hS (vp_in_nI (show i + 2 < L by omega) (by omega)) dW_416 ?_
      rw [show (nI (i + 2)).toNatClampNeg = i + 2 from nI_clamp (by omega)]
      refine lw_c (va_runV (As := [.int (xs (i + 1)), .int (xs (i + 2))]) (rest := [.int r1]) ⟨hx, hb, hml, hown, htb⟩ (C_M_counted l D ca bd S I2 J2 (xs (i + 1)) (xs (i + 2)) hY2) (cwV 2 htb (gd_v k3_123 k3_124 k3_125 k1_8 k3_126) rfl rfl rfl (by decide +kernel) ⟨Nat.le_of_ble_eq_true rfl, Nat.le_of_ble_eq_true rfl⟩) (mPre_V hK hP2 hD2 hN rfl (mw_at (by decide) (ym_0 _ _ _ _))) rfl rfl hl.1 rfl (lv_room (Nat.le_of_ble_eq_true rfl)) dW_417 ⟨Nat.le_of_ble_eq_true rfl, Nat.le_of_ble_eq_true rfl⟩) hD2 hP1 hw1 hS (fun r2 I2' J2' H locs hq hP2 hP1 hS => ?_)
      obtain ⟨hr2, hY2'⟩ := hq
      exact lv_icmp_eq (tgt := 718) hx hb dW_420 (by decide) (fun _ => next _ _ _ _ _ H locs ls hX1 ⟨hX1.1, hY2'⟩ hP1 hP2 hS hl) (fun hne => absurd (hr1.trans hr2.symm) hne)
    by_cases hc9 : x = 9
    · refine lv_tableIn (off := 363) (tgt := 425) hx hb dW_62 (by rw [hc9]; decide) (by rw [hc9]; decide) (by rw [hc9]; rfl) (by decide) ?_
      refine lv_aload_n hx hb dW_425 rfl (lv_at hl 2 rfl) ?_
      refine lv_aload_n hx hb dW_426 rfl (lv_at hl 3 rfl) ?_
      refine lv_iload_n hx hb dW_427 rfl (lv_at hl 0 rfl) ?_
      refine lv_iconst (v := 1) hx hb dW_428 (by decide) ?_
      refine lv_iadd hx hb dW_429 ?_
      rw [show nI i + 1 = nI (i + 1) from nI_add i 1]
      refine va_sld hx hb hX hbl hbA hS (vp_in_nI (show i + 1 < L by omega) (by omega)) dW_430 ?_
      rw [show (nI (i + 1)).toNatClampNeg = i + 1 from nI_clamp (by omega)]
      refine lv_aload_n hx hb dW_431 rfl (lv_at hl 3 rfl) ?_
      refine lv_iload_n hx hb dW_432 rfl (lv_at hl 0 rfl) ?_
      refine lv_iconst (v := 2) hx hb dW_433 (by decide) ?_
      refine lv_iadd hx hb dW_434 ?_
      rw [show nI i + 2 = nI (i + 2) from nI_add i 2]
      refine va_sld hx hb hX hbl hbA hS (vp_in_nI (show i + 2 < L by omega) (by omega)) dW_435 ?_
      rw [show (nI (i + 2)).toNatClampNeg = i + 2 from nI_clamp (by omega)]
      refine lw_c (va_runV (As := [.int (xs (i + 1)), .int (xs (i + 2))]) (rest := []) ⟨hx, hb, hml, hown, htb⟩ (C_F_ballot l D ca ad S I1 J1 (xs (i + 1)) (xs (i + 2)) hX1) (cwV 2 htb (gd_v k2_87 k2_88 k2_89 k1_1 k2_90) rfl rfl rfl (by decide +kernel) ⟨Nat.le_of_ble_eq_true rfl, Nat.le_of_ble_eq_true rfl⟩) (mPre_V hK hP1 hD1 hN rfl (mw_at (by decide) (xm_F (show xk 0 = 0 from rfl) _ _))) rfl rfl hl.1 rfl (lv_room (Nat.le_of_ble_eq_true rfl)) dW_436 ⟨Nat.le_of_ble_eq_true rfl, Nat.le_of_ble_eq_true rfl⟩) hD1 hP2 hw2 hS (fun r1 I1' J1' H locs hq hP1 hP2 hS => ?_)
      obtain ⟨hr1, eI, eJ⟩ := hq
      rw [eI, eJ] at hP1
      refine lv_aload_n hx hb dW_439 rfl (lv_at hl 1 rfl) ?_
      refine lv_aload_n hx hb dW_440 rfl (lv_at hl 3 rfl) ?_
      refine lv_iload_n hx hb dW_441 rfl (lv_at hl 0 rfl) ?_
      refine lv_iconst (v := 1) hx hb dW_442 (by decide) ?_
      refine lv_iadd hx hb dW_443 ?_
      rw [show nI i + 1 = nI (i + 1) from nI_add i 1]
      refine va_sld hx hb hX hbl hbA hS (vp_in_nI (show i + 1 < L by omega) (by omega)) dW_444 ?_
      rw [show (nI (i + 1)).toNatClampNeg = i + 1 from nI_clamp (by omega)]
      refine lv_aload_n hx hb dW_445 rfl (lv_at hl 3 rfl) ?_
      refine lv_iload_n hx hb dW_446 rfl (lv_at hl 0 rfl) ?_
      refine lv_iconst (v := 2) hx hb dW_447 (by decide) ?_
      refine lv_iadd hx hb dW_448 ?_
      rw [show nI i + 2 = nI (i + 2) from nI_add i 2]
      refine va_sld hx hb hX hbl hbA hS (vp_in_nI (show i + 2 < L by omega) (by omega)) dW_449 ?_
      rw [show (nI (i + 2)).toNatClampNeg = i + 2 from nI_clamp (by omega)]
      refine lw_c (va_runV (As := [.int (xs (i + 1)), .int (xs (i + 2))]) (rest := [.int r1]) ⟨hx, hb, hml, hown, htb⟩ (C_M_ballot l D ca bd S I2 J2 (xs (i + 1)) (xs (i + 2)) hY2) (cwV 2 htb (gd_v k3_127 k3_128 k3_129 k1_8 k3_130) rfl rfl rfl (by decide +kernel) ⟨Nat.le_of_ble_eq_true rfl, Nat.le_of_ble_eq_true rfl⟩) (mPre_V hK hP2 hD2 hN rfl (mw_at (by decide) (ym_0 _ _ _ _))) rfl rfl hl.1 rfl (lv_room (Nat.le_of_ble_eq_true rfl)) dW_450 ⟨Nat.le_of_ble_eq_true rfl, Nat.le_of_ble_eq_true rfl⟩) hD2 hP1 hw1 hS (fun r2 I2' J2' H locs hq hP2 hP1 hS => ?_)
      obtain ⟨hr2, eI, eJ⟩ := hq
      rw [eI, eJ] at hP2
      exact lv_icmp_eq (tgt := 718) hx hb dW_453 (by decide) (fun _ => next _ _ _ _ _ H locs ls hX1 hY2 hP1 hP2 hS hl) (fun hne => absurd (hr1.trans hr2.symm) hne)
    by_cases hc10 : x = 10
    · refine lv_tableIn (off := 396) (tgt := 458) hx hb dW_62 (by rw [hc10]; decide) (by rw [hc10]; decide) (by rw [hc10]; rfl) (by decide) ?_
      refine lv_aload_n hx hb dW_458 rfl (lv_at hl 2 rfl) ?_
      refine lv_aload_n hx hb dW_459 rfl (lv_at hl 3 rfl) ?_
      refine lv_iload_n hx hb dW_460 rfl (lv_at hl 0 rfl) ?_
      refine lv_iconst (v := 1) hx hb dW_461 (by decide) ?_
      refine lv_iadd hx hb dW_462 ?_
      rw [show nI i + 1 = nI (i + 1) from nI_add i 1]
      refine va_sld hx hb hX hbl hbA hS (vp_in_nI (show i + 1 < L by omega) (by omega)) dW_463 ?_
      rw [show (nI (i + 1)).toNatClampNeg = i + 1 from nI_clamp (by omega)]
      refine lv_aload_n hx hb dW_464 rfl (lv_at hl 3 rfl) ?_
      refine lv_iload_n hx hb dW_465 rfl (lv_at hl 0 rfl) ?_
      refine lv_iconst (v := 2) hx hb dW_466 (by decide) ?_
      refine lv_iadd hx hb dW_467 ?_
      rw [show nI i + 2 = nI (i + 2) from nI_add i 2]
      refine va_sld hx hb hX hbl hbA hS (vp_in_nI (show i + 2 < L by omega) (by omega)) dW_468 ?_
      rw [show (nI (i + 2)).toNatClampNeg = i + 2 from nI_clamp (by omega)]
      refine lw_c (va_runV (As := [.int (xs (i + 1)), .int (xs (i + 2))]) (rest := []) ⟨hx, hb, hml, hown, htb⟩ (C_F_give l D ca ad S I1 J1 (xs (i + 1)) (xs (i + 2)) hX1) (cwV 2 htb (gd_v k2_91 k2_92 k2_93 k1_1 k2_94) rfl rfl rfl (by decide +kernel) ⟨Nat.le_of_ble_eq_true rfl, Nat.le_of_ble_eq_true rfl⟩) (mPre_V hK hP1 hD1 hN rfl (mw_at (by decide) (xm_F (show xk 0 = 0 from rfl) _ _))) rfl rfl hl.1 rfl (lv_room (Nat.le_of_ble_eq_true rfl)) dW_469 ⟨Nat.le_of_ble_eq_true rfl, Nat.le_of_ble_eq_true rfl⟩) hD1 hP2 hw2 hS (fun r1 I1' J1' H locs hq hP1 hP2 hS => ?_)
      obtain ⟨hr1, hX1'⟩ := hq
      refine lv_aload_n hx hb dW_472 rfl (lv_at hl 1 rfl) ?_
      refine lv_aload_n hx hb dW_473 rfl (lv_at hl 3 rfl) ?_
      refine lv_iload_n hx hb dW_474 rfl (lv_at hl 0 rfl) ?_
      refine lv_iconst (v := 1) hx hb dW_475 (by decide) ?_
      refine lv_iadd hx hb dW_476 ?_
      rw [show nI i + 1 = nI (i + 1) from nI_add i 1]
      refine va_sld hx hb hX hbl hbA hS (vp_in_nI (show i + 1 < L by omega) (by omega)) dW_477 ?_
      rw [show (nI (i + 1)).toNatClampNeg = i + 1 from nI_clamp (by omega)]
      refine lv_aload_n hx hb dW_478 rfl (lv_at hl 3 rfl) ?_
      refine lv_iload_n hx hb dW_479 rfl (lv_at hl 0 rfl) ?_
      refine lv_iconst (v := 2) hx hb dW_480 (by decide) ?_
      refine lv_iadd hx hb dW_481 ?_
      rw [show nI i + 2 = nI (i + 2) from nI_add i 2]
      refine va_sld hx hb hX hbl hbA hS (vp_in_nI (show i + 2 < L by omega) (by omega)) dW_482 ?_
      rw [show (nI (i + 2)).toNatClampNeg = i + 2 from nI_clamp (by omega)]
      refine lw_c (va_runV (As := [.int (xs (i + 1)), .int (xs (i + 2))]) (rest := [.int r1]) ⟨hx, hb, hml, hown, htb⟩ (C_M_give l D ca bd S I2 J2 (xs (i + 1)) (xs (i + 2)) hY2) (cwV 2 htb (gd_v k3_131 k3_132 k3_133 k1_8 k3_134) rfl rfl rfl (by decide +kernel) ⟨Nat.le_of_ble_eq_true rfl, Nat.le_of_ble_eq_true rfl⟩) (mPre_V hK hP2 hD2 hN rfl (mw_at (by decide) (ym_0 _ _ _ _))) rfl rfl hl.1 rfl (lv_room (Nat.le_of_ble_eq_true rfl)) dW_483 ⟨Nat.le_of_ble_eq_true rfl, Nat.le_of_ble_eq_true rfl⟩) hD2 hP1 hw1 hS (fun r2 I2' J2' H locs hq hP2 hP1 hS => ?_)
      obtain ⟨hr2, hY2'⟩ := hq
      exact lv_icmp_eq (tgt := 718) hx hb dW_486 (by decide) (fun _ => next _ _ _ _ _ H locs ls hX1' ⟨hX1'.1, hY2'⟩ hP1 hP2 hS hl) (fun hne => absurd (hr1.trans hr2.symm) hne)
    by_cases hc11 : x = 11
    · refine lv_tableIn (off := 429) (tgt := 491) hx hb dW_62 (by rw [hc11]; decide) (by rw [hc11]; decide) (by rw [hc11]; rfl) (by decide) ?_
      refine lv_aload_n hx hb dW_491 rfl (lv_at hl 2 rfl) ?_
      refine lv_aload_n hx hb dW_492 rfl (lv_at hl 3 rfl) ?_
      refine lv_iload_n hx hb dW_493 rfl (lv_at hl 0 rfl) ?_
      refine lv_iconst (v := 1) hx hb dW_494 (by decide) ?_
      refine lv_iadd hx hb dW_495 ?_
      rw [show nI i + 1 = nI (i + 1) from nI_add i 1]
      refine va_sld hx hb hX hbl hbA hS (vp_in_nI (show i + 1 < L by omega) (by omega)) dW_496 ?_
      rw [show (nI (i + 1)).toNatClampNeg = i + 1 from nI_clamp (by omega)]
      refine lv_aload_n hx hb dW_497 rfl (lv_at hl 3 rfl) ?_
      refine lv_iload_n hx hb dW_498 rfl (lv_at hl 0 rfl) ?_
      refine lv_iconst (v := 2) hx hb dW_499 (by decide) ?_
      refine lv_iadd hx hb dW_500 ?_
      rw [show nI i + 2 = nI (i + 2) from nI_add i 2]
      refine va_sld hx hb hX hbl hbA hS (vp_in_nI (show i + 2 < L by omega) (by omega)) dW_501 ?_
      rw [show (nI (i + 2)).toNatClampNeg = i + 2 from nI_clamp (by omega)]
      refine lw_c (va_runV (As := [.int (xs (i + 1)), .int (xs (i + 2))]) (rest := []) ⟨hx, hb, hml, hown, htb⟩ (C_F_hear l D ca ad S I1 J1 (xs (i + 1)) (xs (i + 2)) hX1) (cwV 2 htb (gd_v k2_119 k2_120 k2_121 k1_1 k2_122) rfl rfl rfl (by decide +kernel) ⟨Nat.le_of_ble_eq_true rfl, Nat.le_of_ble_eq_true rfl⟩) (mPre_V hK hP1 hD1 hN rfl (mw_at (by decide) (xm_F (show xk 0 = 0 from rfl) _ _))) rfl rfl hl.1 rfl (lv_room (Nat.le_of_ble_eq_true rfl)) dW_502 ⟨Nat.le_of_ble_eq_true rfl, Nat.le_of_ble_eq_true rfl⟩) hD1 hP2 hw2 hS (fun r1 I1' J1' H locs hq hP1 hP2 hS => ?_)
      obtain ⟨hr1, hX1'⟩ := hq
      refine lv_aload_n hx hb dW_505 rfl (lv_at hl 1 rfl) ?_
      refine lv_aload_n hx hb dW_506 rfl (lv_at hl 3 rfl) ?_
      refine lv_iload_n hx hb dW_507 rfl (lv_at hl 0 rfl) ?_
      refine lv_iconst (v := 1) hx hb dW_508 (by decide) ?_
      refine lv_iadd hx hb dW_509 ?_
      rw [show nI i + 1 = nI (i + 1) from nI_add i 1]
      refine va_sld hx hb hX hbl hbA hS (vp_in_nI (show i + 1 < L by omega) (by omega)) dW_510 ?_
      rw [show (nI (i + 1)).toNatClampNeg = i + 1 from nI_clamp (by omega)]
      refine lv_aload_n hx hb dW_511 rfl (lv_at hl 3 rfl) ?_
      refine lv_iload_n hx hb dW_512 rfl (lv_at hl 0 rfl) ?_
      refine lv_iconst (v := 2) hx hb dW_513 (by decide) ?_
      refine lv_iadd hx hb dW_514 ?_
      rw [show nI i + 2 = nI (i + 2) from nI_add i 2]
      refine va_sld hx hb hX hbl hbA hS (vp_in_nI (show i + 2 < L by omega) (by omega)) dW_515 ?_
      rw [show (nI (i + 2)).toNatClampNeg = i + 2 from nI_clamp (by omega)]
      refine lw_c (va_runV (As := [.int (xs (i + 1)), .int (xs (i + 2))]) (rest := [.int r1]) ⟨hx, hb, hml, hown, htb⟩ (C_M_hear l D ca bd S I2 J2 (xs (i + 1)) (xs (i + 2)) hY2) (cwV 2 htb (gd_v k3_146 k3_147 k3_148 k1_8 k3_149) rfl rfl rfl (by decide +kernel) ⟨Nat.le_of_ble_eq_true rfl, Nat.le_of_ble_eq_true rfl⟩) (mPre_V hK hP2 hD2 hN rfl (mw_at (by decide) (ym_0 _ _ _ _))) rfl rfl hl.1 rfl (lv_room (Nat.le_of_ble_eq_true rfl)) dW_516 ⟨Nat.le_of_ble_eq_true rfl, Nat.le_of_ble_eq_true rfl⟩) hD2 hP1 hw1 hS (fun r2 I2' J2' H locs hq hP2 hP1 hS => ?_)
      obtain ⟨hr2, hY2'⟩ := hq
      exact lv_icmp_eq (tgt := 718) hx hb dW_519 (by decide) (fun _ => next _ _ _ _ _ H locs ls hX1' ⟨hX1'.1, hY2'⟩ hP1 hP2 hS hl) (fun hne => absurd (hr1.trans hr2.symm) hne)
    by_cases hc12 : x = 12
    · refine lv_tableIn (off := 462) (tgt := 524) hx hb dW_62 (by rw [hc12]; decide) (by rw [hc12]; decide) (by rw [hc12]; rfl) (by decide) ?_
      refine lv_aload_n hx hb dW_524 rfl (lv_at hl 2 rfl) ?_
      refine lv_aload_n hx hb dW_525 rfl (lv_at hl 3 rfl) ?_
      refine lv_iload_n hx hb dW_526 rfl (lv_at hl 0 rfl) ?_
      refine lv_iconst (v := 1) hx hb dW_527 (by decide) ?_
      refine lv_iadd hx hb dW_528 ?_
      rw [show nI i + 1 = nI (i + 1) from nI_add i 1]
      refine va_sld hx hb hX hbl hbA hS (vp_in_nI (show i + 1 < L by omega) (by omega)) dW_529 ?_
      rw [show (nI (i + 1)).toNatClampNeg = i + 1 from nI_clamp (by omega)]
      refine lv_aload_n hx hb dW_530 rfl (lv_at hl 3 rfl) ?_
      refine lv_iload_n hx hb dW_531 rfl (lv_at hl 0 rfl) ?_
      refine lv_iconst (v := 2) hx hb dW_532 (by decide) ?_
      refine lv_iadd hx hb dW_533 ?_
      rw [show nI i + 2 = nI (i + 2) from nI_add i 2]
      refine va_sld hx hb hX hbl hbA hS (vp_in_nI (show i + 2 < L by omega) (by omega)) dW_534 ?_
      rw [show (nI (i + 2)).toNatClampNeg = i + 2 from nI_clamp (by omega)]
      refine lw_c (va_runV (As := [.int (xs (i + 1)), .int (xs (i + 2))]) (rest := []) ⟨hx, hb, hml, hown, htb⟩ (C_F_knows l D ca ad S I1 J1 (xs (i + 1)) (xs (i + 2)) hX1) (cwV 2 htb (gd_v k2_123 k2_124 k2_125 k1_1 k2_126) rfl rfl rfl (by decide +kernel) ⟨Nat.le_of_ble_eq_true rfl, Nat.le_of_ble_eq_true rfl⟩) (mPre_V hK hP1 hD1 hN rfl (mw_at (by decide) (xm_F (show xk 0 = 0 from rfl) _ _))) rfl rfl hl.1 rfl (lv_room (Nat.le_of_ble_eq_true rfl)) dW_535 ⟨Nat.le_of_ble_eq_true rfl, Nat.le_of_ble_eq_true rfl⟩) hD1 hP2 hw2 hS (fun r1 I1' J1' H locs hq hP1 hP2 hS => ?_)
      obtain ⟨hr1, eI, eJ⟩ := hq
      rw [eI, eJ] at hP1
      refine lv_aload_n hx hb dW_538 rfl (lv_at hl 1 rfl) ?_
      refine lv_aload_n hx hb dW_539 rfl (lv_at hl 3 rfl) ?_
      refine lv_iload_n hx hb dW_540 rfl (lv_at hl 0 rfl) ?_
      refine lv_iconst (v := 1) hx hb dW_541 (by decide) ?_
      refine lv_iadd hx hb dW_542 ?_
      rw [show nI i + 1 = nI (i + 1) from nI_add i 1]
      refine va_sld hx hb hX hbl hbA hS (vp_in_nI (show i + 1 < L by omega) (by omega)) dW_543 ?_
      rw [show (nI (i + 1)).toNatClampNeg = i + 1 from nI_clamp (by omega)]
      refine lv_aload_n hx hb dW_544 rfl (lv_at hl 3 rfl) ?_
      refine lv_iload_n hx hb dW_545 rfl (lv_at hl 0 rfl) ?_
      refine lv_iconst (v := 2) hx hb dW_546 (by decide) ?_
      refine lv_iadd hx hb dW_547 ?_
      rw [show nI i + 2 = nI (i + 2) from nI_add i 2]
      refine va_sld hx hb hX hbl hbA hS (vp_in_nI (show i + 2 < L by omega) (by omega)) dW_548 ?_
      rw [show (nI (i + 2)).toNatClampNeg = i + 2 from nI_clamp (by omega)]
      refine lw_c (va_runV (As := [.int (xs (i + 1)), .int (xs (i + 2))]) (rest := [.int r1]) ⟨hx, hb, hml, hown, htb⟩ (C_M_knows l D ca bd S I2 J2 (xs (i + 1)) (xs (i + 2)) hY2) (cwV 2 htb (gd_v k3_150 k3_151 k3_152 k1_8 k3_153) rfl rfl rfl (by decide +kernel) ⟨Nat.le_of_ble_eq_true rfl, Nat.le_of_ble_eq_true rfl⟩) (mPre_V hK hP2 hD2 hN rfl (mw_at (by decide) (ym_0 _ _ _ _))) rfl rfl hl.1 rfl (lv_room (Nat.le_of_ble_eq_true rfl)) dW_549 ⟨Nat.le_of_ble_eq_true rfl, Nat.le_of_ble_eq_true rfl⟩) hD2 hP1 hw1 hS (fun r2 I2' J2' H locs hq hP2 hP1 hS => ?_)
      obtain ⟨hr2, eI, eJ⟩ := hq
      rw [eI, eJ] at hP2
      exact lv_icmp_eq (tgt := 718) hx hb dW_552 (by decide) (fun _ => next _ _ _ _ _ H locs ls hX1 hY2 hP1 hP2 hS hl) (fun hne => absurd (hr1.trans hr2.symm) hne)
    by_cases hc13 : x = 13
    · refine lv_tableIn (off := 495) (tgt := 557) hx hb dW_62 (by rw [hc13]; decide) (by rw [hc13]; decide) (by rw [hc13]; rfl) (by decide) ?_
      refine lv_aload_n hx hb dW_557 rfl (lv_at hl 2 rfl) ?_
      refine lv_aload_n hx hb dW_558 rfl (lv_at hl 3 rfl) ?_
      refine lv_iload_n hx hb dW_559 rfl (lv_at hl 0 rfl) ?_
      refine lv_iconst (v := 1) hx hb dW_560 (by decide) ?_
      refine lv_iadd hx hb dW_561 ?_
      rw [show nI i + 1 = nI (i + 1) from nI_add i 1]
      refine va_sld hx hb hX hbl hbA hS (vp_in_nI (show i + 1 < L by omega) (by omega)) dW_562 ?_
      rw [show (nI (i + 1)).toNatClampNeg = i + 1 from nI_clamp (by omega)]
      refine lw_c (va_runV (As := [.int (xs (i + 1))]) (rest := []) ⟨hx, hb, hml, hown, htb⟩ (C_F_head l D ca ad S I1 J1 (xs (i + 1)) hX1) (cwV 1 htb (gd_v k2_127 k2_128 k2_129 k1_1 k2_130) rfl rfl rfl (by decide +kernel) ⟨Nat.le_of_ble_eq_true rfl, Nat.le_of_ble_eq_true rfl⟩) (mPre_V hK hP1 hD1 hN rfl (mw_at (by decide) (xm_F (show xk 0 = 0 from rfl) _ _))) rfl rfl hl.1 rfl (lv_room (Nat.le_of_ble_eq_true rfl)) dW_563 ⟨Nat.le_of_ble_eq_true rfl, Nat.le_of_ble_eq_true rfl⟩) hD1 hP2 hw2 hS (fun r1 I1' J1' H locs hq hP1 hP2 hS => ?_)
      obtain ⟨hr1, eI, eJ⟩ := hq
      rw [eI, eJ] at hP1
      refine lv_aload_n hx hb dW_566 rfl (lv_at hl 1 rfl) ?_
      refine lv_aload_n hx hb dW_567 rfl (lv_at hl 3 rfl) ?_
      refine lv_iload_n hx hb dW_568 rfl (lv_at hl 0 rfl) ?_
      refine lv_iconst (v := 1) hx hb dW_569 (by decide) ?_
      refine lv_iadd hx hb dW_570 ?_
      rw [show nI i + 1 = nI (i + 1) from nI_add i 1]
      refine va_sld hx hb hX hbl hbA hS (vp_in_nI (show i + 1 < L by omega) (by omega)) dW_571 ?_
      rw [show (nI (i + 1)).toNatClampNeg = i + 1 from nI_clamp (by omega)]
      refine lw_c (va_runV (As := [.int (xs (i + 1))]) (rest := [.int r1]) ⟨hx, hb, hml, hown, htb⟩ (C_M_head l D ca bd S I2 J2 (xs (i + 1)) hY2) (cwV 1 htb (gd_v k3_154 k3_155 k3_156 k1_8 k3_157) rfl rfl rfl (by decide +kernel) ⟨Nat.le_of_ble_eq_true rfl, Nat.le_of_ble_eq_true rfl⟩) (mPre_V hK hP2 hD2 hN rfl (mw_at (by decide) (ym_0 _ _ _ _))) rfl rfl hl.1 rfl (lv_room (Nat.le_of_ble_eq_true rfl)) dW_572 ⟨Nat.le_of_ble_eq_true rfl, Nat.le_of_ble_eq_true rfl⟩) hD2 hP1 hw1 hS (fun r2 I2' J2' H locs hq hP2 hP1 hS => ?_)
      obtain ⟨hr2, eI, eJ⟩ := hq
      rw [eI, eJ] at hP2
      exact lv_icmp_eq (tgt := 718) hx hb dW_575 (by decide) (fun _ => next _ _ _ _ _ H locs ls hX1 hY2 hP1 hP2 hS hl) (fun hne => absurd (hr1.trans hr2.symm) hne)
    by_cases hc14 : x = 14
    · refine lv_tableIn (off := 518) (tgt := 580) hx hb dW_62 (by rw [hc14]; decide) (by rw [hc14]; decide) (by rw [hc14]; rfl) (by decide) ?_
      refine lv_aload_n hx hb dW_580 rfl (lv_at hl 2 rfl) ?_
      refine lv_aload_n hx hb dW_581 rfl (lv_at hl 3 rfl) ?_
      refine lv_iload_n hx hb dW_582 rfl (lv_at hl 0 rfl) ?_
      refine lv_iconst (v := 1) hx hb dW_583 (by decide) ?_
      refine lv_iadd hx hb dW_584 ?_
      rw [show nI i + 1 = nI (i + 1) from nI_add i 1]
      refine va_sld hx hb hX hbl hbA hS (vp_in_nI (show i + 1 < L by omega) (by omega)) dW_585 ?_
      rw [show (nI (i + 1)).toNatClampNeg = i + 1 from nI_clamp (by omega)]
      refine lv_aload_n hx hb dW_586 rfl (lv_at hl 3 rfl) ?_
      refine lv_iload_n hx hb dW_587 rfl (lv_at hl 0 rfl) ?_
      refine lv_iconst (v := 2) hx hb dW_588 (by decide) ?_
      refine lv_iadd hx hb dW_589 ?_
      rw [show nI i + 2 = nI (i + 2) from nI_add i 2]
      refine va_sld hx hb hX hbl hbA hS (vp_in_nI (show i + 2 < L by omega) (by omega)) dW_590 ?_
      rw [show (nI (i + 2)).toNatClampNeg = i + 2 from nI_clamp (by omega)]
      refine lw_c (va_runV (As := [.int (xs (i + 1)), .int (xs (i + 2))]) (rest := []) ⟨hx, hb, hml, hown, htb⟩ (C_F_checkpoint l D ca ad S I1 J1 (xs (i + 1)) (xs (i + 2)) hX1) (cwV 2 htb (gd_v k2_139 k2_140 k2_141 k1_1 k2_142) rfl rfl rfl (by decide +kernel) ⟨Nat.le_of_ble_eq_true rfl, Nat.le_of_ble_eq_true rfl⟩) (mPre_V hK hP1 hD1 hN rfl (mw_at (by decide) (xm_F (show xk 0 = 0 from rfl) _ _))) rfl rfl hl.1 rfl (lv_room (Nat.le_of_ble_eq_true rfl)) dW_591 ⟨Nat.le_of_ble_eq_true rfl, Nat.le_of_ble_eq_true rfl⟩) hD1 hP2 hw2 hS (fun r1 I1' J1' H locs hq hP1 hP2 hS => ?_)
      obtain ⟨hr1, eI, eJ⟩ := hq
      rw [eI, eJ] at hP1
      refine lv_aload_n hx hb dW_594 rfl (lv_at hl 1 rfl) ?_
      refine lv_aload_n hx hb dW_595 rfl (lv_at hl 3 rfl) ?_
      refine lv_iload_n hx hb dW_596 rfl (lv_at hl 0 rfl) ?_
      refine lv_iconst (v := 1) hx hb dW_597 (by decide) ?_
      refine lv_iadd hx hb dW_598 ?_
      rw [show nI i + 1 = nI (i + 1) from nI_add i 1]
      refine va_sld hx hb hX hbl hbA hS (vp_in_nI (show i + 1 < L by omega) (by omega)) dW_599 ?_
      rw [show (nI (i + 1)).toNatClampNeg = i + 1 from nI_clamp (by omega)]
      refine lv_aload_n hx hb dW_600 rfl (lv_at hl 3 rfl) ?_
      refine lv_iload_n hx hb dW_601 rfl (lv_at hl 0 rfl) ?_
      refine lv_iconst (v := 2) hx hb dW_602 (by decide) ?_
      refine lv_iadd hx hb dW_603 ?_
      rw [show nI i + 2 = nI (i + 2) from nI_add i 2]
      refine va_sld hx hb hX hbl hbA hS (vp_in_nI (show i + 2 < L by omega) (by omega)) dW_604 ?_
      rw [show (nI (i + 2)).toNatClampNeg = i + 2 from nI_clamp (by omega)]
      refine lw_c (va_runV (As := [.int (xs (i + 1)), .int (xs (i + 2))]) (rest := [.int r1]) ⟨hx, hb, hml, hown, htb⟩ (C_M_checkpoint l D ca bd S I2 J2 (xs (i + 1)) (xs (i + 2)) hY2) (cwV 2 htb (gd_v k3_166 k3_167 k3_168 k1_8 k3_169) rfl rfl rfl (by decide +kernel) ⟨Nat.le_of_ble_eq_true rfl, Nat.le_of_ble_eq_true rfl⟩) (mPre_V hK hP2 hD2 hN rfl (mw_at (by decide) (ym_0 _ _ _ _))) rfl rfl hl.1 rfl (lv_room (Nat.le_of_ble_eq_true rfl)) dW_605 ⟨Nat.le_of_ble_eq_true rfl, Nat.le_of_ble_eq_true rfl⟩) hD2 hP1 hw1 hS (fun r2 I2' J2' H locs hq hP2 hP1 hS => ?_)
      obtain ⟨hr2, eI, eJ⟩ := hq
      rw [eI, eJ] at hP2
      exact lv_icmp_eq (tgt := 718) hx hb dW_608 (by decide) (fun _ => next _ _ _ _ _ H locs ls hX1 hY2 hP1 hP2 hS hl) (fun hne => absurd (hr1.trans hr2.symm) hne)
    by_cases hc15 : x = 15
    · refine lv_tableIn (off := 551) (tgt := 613) hx hb dW_62 (by rw [hc15]; decide) (by rw [hc15]; decide) (by rw [hc15]; rfl) (by decide) ?_
      refine lv_aload_n hx hb dW_613 rfl (lv_at hl 2 rfl) ?_
      refine lv_aload_n hx hb dW_614 rfl (lv_at hl 3 rfl) ?_
      refine lv_iload_n hx hb dW_615 rfl (lv_at hl 0 rfl) ?_
      refine lv_iconst (v := 1) hx hb dW_616 (by decide) ?_
      refine lv_iadd hx hb dW_617 ?_
      rw [show nI i + 1 = nI (i + 1) from nI_add i 1]
      refine va_sld hx hb hX hbl hbA hS (vp_in_nI (show i + 1 < L by omega) (by omega)) dW_618 ?_
      rw [show (nI (i + 1)).toNatClampNeg = i + 1 from nI_clamp (by omega)]
      refine lv_aload_n hx hb dW_619 rfl (lv_at hl 3 rfl) ?_
      refine lv_iload_n hx hb dW_620 rfl (lv_at hl 0 rfl) ?_
      refine lv_iconst (v := 2) hx hb dW_621 (by decide) ?_
      refine lv_iadd hx hb dW_622 ?_
      rw [show nI i + 2 = nI (i + 2) from nI_add i 2]
      refine va_sld hx hb hX hbl hbA hS (vp_in_nI (show i + 2 < L by omega) (by omega)) dW_623 ?_
      rw [show (nI (i + 2)).toNatClampNeg = i + 2 from nI_clamp (by omega)]
      refine lw_c (va_runV (As := [.int (xs (i + 1)), .int (xs (i + 2))]) (rest := []) ⟨hx, hb, hml, hown, htb⟩ (C_F_conflict l D ca ad S I1 J1 (xs (i + 1)) (xs (i + 2)) hX1) (cwV 2 htb (gd_v k2_143 k2_144 k2_145 k1_1 k2_146) rfl rfl rfl (by decide +kernel) ⟨Nat.le_of_ble_eq_true rfl, Nat.le_of_ble_eq_true rfl⟩) (mPre_V hK hP1 hD1 hN rfl (mw_at (by decide) (xm_F (show xk 0 = 0 from rfl) _ _))) rfl rfl hl.1 rfl (lv_room (Nat.le_of_ble_eq_true rfl)) dW_624 ⟨Nat.le_of_ble_eq_true rfl, Nat.le_of_ble_eq_true rfl⟩) hD1 hP2 hw2 hS (fun r1 I1' J1' H locs hq hP1 hP2 hS => ?_)
      obtain ⟨hr1, eI, eJ⟩ := hq
      rw [eI, eJ] at hP1
      refine lv_aload_n hx hb dW_627 rfl (lv_at hl 1 rfl) ?_
      refine lv_aload_n hx hb dW_628 rfl (lv_at hl 3 rfl) ?_
      refine lv_iload_n hx hb dW_629 rfl (lv_at hl 0 rfl) ?_
      refine lv_iconst (v := 1) hx hb dW_630 (by decide) ?_
      refine lv_iadd hx hb dW_631 ?_
      rw [show nI i + 1 = nI (i + 1) from nI_add i 1]
      refine va_sld hx hb hX hbl hbA hS (vp_in_nI (show i + 1 < L by omega) (by omega)) dW_632 ?_
      rw [show (nI (i + 1)).toNatClampNeg = i + 1 from nI_clamp (by omega)]
      refine lv_aload_n hx hb dW_633 rfl (lv_at hl 3 rfl) ?_
      refine lv_iload_n hx hb dW_634 rfl (lv_at hl 0 rfl) ?_
      refine lv_iconst (v := 2) hx hb dW_635 (by decide) ?_
      refine lv_iadd hx hb dW_636 ?_
      rw [show nI i + 2 = nI (i + 2) from nI_add i 2]
      refine va_sld hx hb hX hbl hbA hS (vp_in_nI (show i + 2 < L by omega) (by omega)) dW_637 ?_
      rw [show (nI (i + 2)).toNatClampNeg = i + 2 from nI_clamp (by omega)]
      refine lw_c (va_runV (As := [.int (xs (i + 1)), .int (xs (i + 2))]) (rest := [.int r1]) ⟨hx, hb, hml, hown, htb⟩ (C_M_conflict l D ca bd S I2 J2 (xs (i + 1)) (xs (i + 2)) hY2) (cwV 2 htb (gd_v k3_170 k3_171 k3_172 k1_8 k3_173) rfl rfl rfl (by decide +kernel) ⟨Nat.le_of_ble_eq_true rfl, Nat.le_of_ble_eq_true rfl⟩) (mPre_V hK hP2 hD2 hN rfl (mw_at (by decide) (ym_0 _ _ _ _))) rfl rfl hl.1 rfl (lv_room (Nat.le_of_ble_eq_true rfl)) dW_638 ⟨Nat.le_of_ble_eq_true rfl, Nat.le_of_ble_eq_true rfl⟩) hD2 hP1 hw1 hS (fun r2 I2' J2' H locs hq hP2 hP1 hS => ?_)
      obtain ⟨hr2, eI, eJ⟩ := hq
      rw [eI, eJ] at hP2
      exact lv_icmp_eq (tgt := 718) hx hb dW_641 (by decide) (fun _ => next _ _ _ _ _ H locs ls hX1 hY2 hP1 hP2 hS hl) (fun hne => absurd (hr1.trans hr2.symm) hne)
    by_cases hc16 : x = 16
    · refine lv_tableIn (off := 584) (tgt := 646) hx hb dW_62 (by rw [hc16]; decide) (by rw [hc16]; decide) (by rw [hc16]; rfl) (by decide) ?_
      refine lv_aload_n hx hb dW_646 rfl (lv_at hl 2 rfl) ?_
      refine lv_aload_n hx hb dW_647 rfl (lv_at hl 3 rfl) ?_
      refine lv_iload_n hx hb dW_648 rfl (lv_at hl 0 rfl) ?_
      refine lv_iconst (v := 1) hx hb dW_649 (by decide) ?_
      refine lv_iadd hx hb dW_650 ?_
      rw [show nI i + 1 = nI (i + 1) from nI_add i 1]
      refine va_sld hx hb hX hbl hbA hS (vp_in_nI (show i + 1 < L by omega) (by omega)) dW_651 ?_
      rw [show (nI (i + 1)).toNatClampNeg = i + 1 from nI_clamp (by omega)]
      refine lv_aload_n hx hb dW_652 rfl (lv_at hl 3 rfl) ?_
      refine lv_iload_n hx hb dW_653 rfl (lv_at hl 0 rfl) ?_
      refine lv_iconst (v := 2) hx hb dW_654 (by decide) ?_
      refine lv_iadd hx hb dW_655 ?_
      rw [show nI i + 2 = nI (i + 2) from nI_add i 2]
      refine va_sld hx hb hX hbl hbA hS (vp_in_nI (show i + 2 < L by omega) (by omega)) dW_656 ?_
      rw [show (nI (i + 2)).toNatClampNeg = i + 2 from nI_clamp (by omega)]
      refine lv_if_eq (tgt := 664) hx hb dW_657 (by decide) (fun hg => ?_) (fun hg => ?_)
      · have hg0 := hg
        refine lv_iconst (v := 0) hx hb dW_664 (by decide) ?_
        refine lw_c (va_runV (As := [.int (xs (i + 1)), .int (0)]) (rest := []) ⟨hx, hb, hml, hown, htb⟩ (C_F_guilty l D ca ad S I1 J1 (xs (i + 1)) 0 hX1) (cwV 2 htb (gd_v k2_147 k2_148 k2_149 k1_1 k2_150) rfl rfl rfl (by decide +kernel) ⟨Nat.le_of_ble_eq_true rfl, Nat.le_of_ble_eq_true rfl⟩) (mPre_V hK hP1 hD1 hN rfl (mw_at (by decide) (xm_F (show xk 0 = 0 from rfl) _ _))) rfl rfl hl.1 rfl (lv_room (Nat.le_of_ble_eq_true rfl)) dW_665 ⟨Nat.le_of_ble_eq_true rfl, Nat.le_of_ble_eq_true rfl⟩) hD1 hP2 hw2 hS (fun r1 I1' J1' H locs hq hP1 hP2 hS => ?_)
        obtain ⟨hr1, eI, eJ⟩ := hq
        rw [eI, eJ] at hP1
        refine lv_aload_n hx hb dW_668 rfl (lv_at hl 1 rfl) ?_
        refine lv_aload_n hx hb dW_669 rfl (lv_at hl 3 rfl) ?_
        refine lv_iload_n hx hb dW_670 rfl (lv_at hl 0 rfl) ?_
        refine lv_iconst (v := 1) hx hb dW_671 (by decide) ?_
        refine lv_iadd hx hb dW_672 ?_
        rw [show nI i + 1 = nI (i + 1) from nI_add i 1]
        refine va_sld hx hb hX hbl hbA hS (vp_in_nI (show i + 1 < L by omega) (by omega)) dW_673 ?_
        rw [show (nI (i + 1)).toNatClampNeg = i + 1 from nI_clamp (by omega)]
        refine lv_aload_n hx hb dW_674 rfl (lv_at hl 3 rfl) ?_
        refine lv_iload_n hx hb dW_675 rfl (lv_at hl 0 rfl) ?_
        refine lv_iconst (v := 2) hx hb dW_676 (by decide) ?_
        refine lv_iadd hx hb dW_677 ?_
        rw [show nI i + 2 = nI (i + 2) from nI_add i 2]
        refine va_sld hx hb hX hbl hbA hS (vp_in_nI (show i + 2 < L by omega) (by omega)) dW_678 ?_
        rw [show (nI (i + 2)).toNatClampNeg = i + 2 from nI_clamp (by omega)]
        refine lv_if_eq (tgt := 686) hx hb dW_679 (by decide) (fun hg => ?_) (fun hg => ?_)
        · skip
          refine lv_iconst (v := 0) hx hb dW_686 (by decide) ?_
          refine lw_c (va_runV (As := [.int (xs (i + 1)), .int (0)]) (rest := [.int r1]) ⟨hx, hb, hml, hown, htb⟩ (C_M_guilty l D ca bd S I2 J2 (xs (i + 1)) 0 hY2) (cwV 2 htb (gd_v k3_174 k3_175 k3_176 k1_8 k3_177) rfl rfl rfl (by decide +kernel) ⟨Nat.le_of_ble_eq_true rfl, Nat.le_of_ble_eq_true rfl⟩) (mPre_V hK hP2 hD2 hN rfl (mw_at (by decide) (ym_0 _ _ _ _))) rfl rfl hl.1 rfl (lv_room (Nat.le_of_ble_eq_true rfl)) dW_687 ⟨Nat.le_of_ble_eq_true rfl, Nat.le_of_ble_eq_true rfl⟩) hD2 hP1 hw1 hS (fun r2 I2' J2' H locs hq hP2 hP1 hS => ?_)
          obtain ⟨hr2, eI, eJ⟩ := hq
          rw [eI, eJ] at hP2
          exact lv_icmp_eq (tgt := 718) hx hb dW_690 (by decide) (fun _ => next _ _ _ _ _ H locs ls hX1 hY2 hP1 hP2 hS hl) (fun hne => absurd (hr1.trans hr2.symm) hne)
        · exact absurd hg0 hg
      · have hg0 := hg
        refine lv_iconst (v := 1) hx hb dW_660 (by decide) ?_
        refine lv_goto (tgt := 665) hx hb dW_661 (by decide) ?_
        refine lw_c (va_runV (As := [.int (xs (i + 1)), .int (1)]) (rest := []) ⟨hx, hb, hml, hown, htb⟩ (C_F_guilty l D ca ad S I1 J1 (xs (i + 1)) 1 hX1) (cwV 2 htb (gd_v k2_147 k2_148 k2_149 k1_1 k2_150) rfl rfl rfl (by decide +kernel) ⟨Nat.le_of_ble_eq_true rfl, Nat.le_of_ble_eq_true rfl⟩) (mPre_V hK hP1 hD1 hN rfl (mw_at (by decide) (xm_F (show xk 0 = 0 from rfl) _ _))) rfl rfl hl.1 rfl (lv_room (Nat.le_of_ble_eq_true rfl)) dW_665 ⟨Nat.le_of_ble_eq_true rfl, Nat.le_of_ble_eq_true rfl⟩) hD1 hP2 hw2 hS (fun r1 I1' J1' H locs hq hP1 hP2 hS => ?_)
        obtain ⟨hr1, eI, eJ⟩ := hq
        rw [eI, eJ] at hP1
        refine lv_aload_n hx hb dW_668 rfl (lv_at hl 1 rfl) ?_
        refine lv_aload_n hx hb dW_669 rfl (lv_at hl 3 rfl) ?_
        refine lv_iload_n hx hb dW_670 rfl (lv_at hl 0 rfl) ?_
        refine lv_iconst (v := 1) hx hb dW_671 (by decide) ?_
        refine lv_iadd hx hb dW_672 ?_
        rw [show nI i + 1 = nI (i + 1) from nI_add i 1]
        refine va_sld hx hb hX hbl hbA hS (vp_in_nI (show i + 1 < L by omega) (by omega)) dW_673 ?_
        rw [show (nI (i + 1)).toNatClampNeg = i + 1 from nI_clamp (by omega)]
        refine lv_aload_n hx hb dW_674 rfl (lv_at hl 3 rfl) ?_
        refine lv_iload_n hx hb dW_675 rfl (lv_at hl 0 rfl) ?_
        refine lv_iconst (v := 2) hx hb dW_676 (by decide) ?_
        refine lv_iadd hx hb dW_677 ?_
        rw [show nI i + 2 = nI (i + 2) from nI_add i 2]
        refine va_sld hx hb hX hbl hbA hS (vp_in_nI (show i + 2 < L by omega) (by omega)) dW_678 ?_
        rw [show (nI (i + 2)).toNatClampNeg = i + 2 from nI_clamp (by omega)]
        refine lv_if_eq (tgt := 686) hx hb dW_679 (by decide) (fun hg => ?_) (fun hg => ?_)
        · exact absurd hg hg0
        · skip
          refine lv_iconst (v := 1) hx hb dW_682 (by decide) ?_
          refine lv_goto (tgt := 687) hx hb dW_683 (by decide) ?_
          refine lw_c (va_runV (As := [.int (xs (i + 1)), .int (1)]) (rest := [.int r1]) ⟨hx, hb, hml, hown, htb⟩ (C_M_guilty l D ca bd S I2 J2 (xs (i + 1)) 1 hY2) (cwV 2 htb (gd_v k3_174 k3_175 k3_176 k1_8 k3_177) rfl rfl rfl (by decide +kernel) ⟨Nat.le_of_ble_eq_true rfl, Nat.le_of_ble_eq_true rfl⟩) (mPre_V hK hP2 hD2 hN rfl (mw_at (by decide) (ym_0 _ _ _ _))) rfl rfl hl.1 rfl (lv_room (Nat.le_of_ble_eq_true rfl)) dW_687 ⟨Nat.le_of_ble_eq_true rfl, Nat.le_of_ble_eq_true rfl⟩) hD2 hP1 hw1 hS (fun r2 I2' J2' H locs hq hP2 hP1 hS => ?_)
          obtain ⟨hr2, eI, eJ⟩ := hq
          rw [eI, eJ] at hP2
          exact lv_icmp_eq (tgt := 718) hx hb dW_690 (by decide) (fun _ => next _ _ _ _ _ H locs ls hX1 hY2 hP1 hP2 hS hl) (fun hne => absurd (hr1.trans hr2.symm) hne)
    by_cases hc17 : x = 17
    · refine lv_tableIn (off := 633) (tgt := 695) hx hb dW_62 (by rw [hc17]; decide) (by rw [hc17]; decide) (by rw [hc17]; rfl) (by decide) ?_
      refine lv_aload_n hx hb dW_695 rfl (lv_at hl 2 rfl) ?_
      refine lv_aload_n hx hb dW_696 rfl (lv_at hl 3 rfl) ?_
      refine lv_iload_n hx hb dW_697 rfl (lv_at hl 0 rfl) ?_
      refine lv_iconst (v := 1) hx hb dW_698 (by decide) ?_
      refine lv_iadd hx hb dW_699 ?_
      rw [show nI i + 1 = nI (i + 1) from nI_add i 1]
      refine va_sld hx hb hX hbl hbA hS (vp_in_nI (show i + 1 < L by omega) (by omega)) dW_700 ?_
      rw [show (nI (i + 1)).toNatClampNeg = i + 1 from nI_clamp (by omega)]
      refine lw_c (va_runV (As := [.int (xs (i + 1))]) (rest := []) ⟨hx, hb, hml, hown, htb⟩ (C_F_proof l D ca ad S I1 J1 (xs (i + 1)) hX1) (cwV 1 htb (gd_v k2_159 k2_160 k2_161 k1_1 k2_162) rfl rfl rfl (by decide +kernel) ⟨Nat.le_of_ble_eq_true rfl, Nat.le_of_ble_eq_true rfl⟩) (mPre_V hK hP1 hD1 hN rfl (mw_at (by decide) (xm_F (show xk 0 = 0 from rfl) _ _))) rfl rfl hl.1 rfl (lv_room (Nat.le_of_ble_eq_true rfl)) dW_701 ⟨Nat.le_of_ble_eq_true rfl, Nat.le_of_ble_eq_true rfl⟩) hD1 hP2 hw2 hS (fun r1 I1' J1' H locs hq hP1 hP2 hS => ?_)
      obtain ⟨hr1, eI, eJ⟩ := hq
      rw [eI, eJ] at hP1
      refine lv_aload_n hx hb dW_704 rfl (lv_at hl 1 rfl) ?_
      refine lv_aload_n hx hb dW_705 rfl (lv_at hl 3 rfl) ?_
      refine lv_iload_n hx hb dW_706 rfl (lv_at hl 0 rfl) ?_
      refine lv_iconst (v := 1) hx hb dW_707 (by decide) ?_
      refine lv_iadd hx hb dW_708 ?_
      rw [show nI i + 1 = nI (i + 1) from nI_add i 1]
      refine va_sld hx hb hX hbl hbA hS (vp_in_nI (show i + 1 < L by omega) (by omega)) dW_709 ?_
      rw [show (nI (i + 1)).toNatClampNeg = i + 1 from nI_clamp (by omega)]
      refine lw_c (va_runV (As := [.int (xs (i + 1))]) (rest := [.int r1]) ⟨hx, hb, hml, hown, htb⟩ (C_M_proof l D ca bd S I2 J2 (xs (i + 1)) hY2) (cwV 1 htb (gd_v k3_186 k3_187 k3_188 k1_8 k3_189) rfl rfl rfl (by decide +kernel) ⟨Nat.le_of_ble_eq_true rfl, Nat.le_of_ble_eq_true rfl⟩) (mPre_V hK hP2 hD2 hN rfl (mw_at (by decide) (ym_0 _ _ _ _))) rfl rfl hl.1 rfl (lv_room (Nat.le_of_ble_eq_true rfl)) dW_710 ⟨Nat.le_of_ble_eq_true rfl, Nat.le_of_ble_eq_true rfl⟩) hD2 hP1 hw1 hS (fun r2 I2' J2' H locs hq hP2 hP1 hS => ?_)
      obtain ⟨hr2, eI, eJ⟩ := hq
      rw [eI, eJ] at hP2
      exact lv_icmp_eq (tgt := 718) hx hb dW_713 (by decide) (fun _ => next _ _ _ _ _ H locs ls hX1 hY2 hP1 hP2 hS hl) (fun hne => absurd (hr1.trans hr2.symm) hne)
    refine lv_tableOut (tgt := 718) hx hb dW_62 (sw_out (by have q0 := sw_ne (k := 0) (n := 0) rfl hc0; have q1 := sw_ne (k := 1) (n := 1) rfl hc1; have q2 := sw_ne (k := 2) (n := 2) rfl hc2; have q3 := sw_ne (k := 3) (n := 3) rfl hc3; have q4 := sw_ne (k := 4) (n := 4) rfl hc4; have q5 := sw_ne (k := 5) (n := 5) rfl hc5; have q6 := sw_ne (k := 6) (n := 6) rfl hc6; have q7 := sw_ne (k := 7) (n := 7) rfl hc7; have q8 := sw_ne (k := 8) (n := 8) rfl hc8; have q9 := sw_ne (k := 9) (n := 9) rfl hc9; have q10 := sw_ne (k := 10) (n := 10) rfl hc10; have q11 := sw_ne (k := 11) (n := 11) rfl hc11; have q12 := sw_ne (k := 12) (n := 12) rfl hc12; have q13 := sw_ne (k := 13) (n := 13) rfl hc13; have q14 := sw_ne (k := 14) (n := 14) rfl hc14; have q15 := sw_ne (k := 15) (n := 15) rfl hc15; have q16 := sw_ne (k := 16) (n := 16) rfl hc16; have q17 := sw_ne (k := 17) (n := 17) rfl hc17; omega)) (by decide) ?_
    exact next _ _ _ _ _ H locs ls hX1 hY2 hP1 hP2 hS hl
