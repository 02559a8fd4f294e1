def wp_M_count_55 (K55 : mI → mJ → Int32 → Prop) (K137 : mI → mJ → Prop) (R : mI → mJ → Prop) (I : mI) (J : mJ) (a1 : Int32) (a2 : Int32) (x3 : Int32) : Prop :=
  (vp_in a1 80 ∧ (vp_in (I 7 a1.toNatClampNeg) 7 ∧ (vp_in (I 7 a1.toNatClampNeg) 7 ∧ (∀ (I12 : mI), I12 = mu I 18 (I 7 a1.toNatClampNeg).toNatClampNeg ((I 18 (I 7 a1.toNatClampNeg).toNatClampNeg) + 2) → (vp_in a2 7 ∧ (vp_in a2 7 ∧ (∀ (I15 : mI), I15 = mu I12 18 a2.toNatClampNeg ((I12 18 a2.toNatClampNeg) + 1) → (∃ (S16 : mI), (pM_weightOf S16 I15 J x3 ∧ (((3 * (fM_weightOf S16 I15 J x3)) < (2 * (I15 0 3)) → R I15 J) ∧ (¬ ((3 * (fM_weightOf S16 I15 J x3)) < (2 * (I15 0 3))) → (vp_in a1 80 ∧ (vp_in a1 80 ∧ ((¬ (((I15 10 a1.toNatClampNeg) + 1) = (I15 12 a1.toNatClampNeg)) → K137 I15 J) ∧ (((I15 10 a1.toNatClampNeg) + 1) = (I15 12 a1.toNatClampNeg) → (vp_in a1 80 ∧ (∀ (I21 : mI), I21 = mu I15 0 30 (I15 10 a1.toNatClampNeg) → (vp_in a1 80 ∧ (∀ (I23 : mI), I23 = mu I21 0 31 (I21 11 a1.toNatClampNeg) → K137 I23 J)))))))))))))))))))
def wp_M_count_137 (K55 : mI → mJ → Int32 → Prop) (K137 : mI → mJ → Prop) (R : mI → mJ → Prop) (I : mI) (J : mJ) (a1 : Int32) (a2 : Int32)  : Prop :=
  (vp_in a1 80 ∧ (∀ (I25 : mI), I25 = mu I 0 28 (I 12 a1.toNatClampNeg) → (vp_in a1 80 ∧ (∀ (I27 : mI), I27 = mu I25 0 29 (I25 13 a1.toNatClampNeg) → (∀ (I30 : mI) (J31 : mJ), qM_forget I27 J I30 J31 → R I30 J31)))))
def wp_M_count (K55 : mI → mJ → Int32 → Prop) (K137 : mI → mJ → Prop) (R : mI → mJ → Prop) (I0 : mI) (J0 : mJ) (a1 : Int32) (a2 : Int32) : Prop :=
  (vp_in a1 80 ∧ (¬ (I0 0 1) = 0 ∧ ((¬ (((I0 8 a1.toNatClampNeg) / (I0 0 1)) = (I0 0 23)) → (vp_in a1 80 ∧ (vp_in (I0 7 a1.toNatClampNeg) 7 ∧ (∀ (I5 : mI), I5 = mu I0 21 (I0 7 a1.toNatClampNeg).toNatClampNeg (vp_nar .boolean 1) → K55 I5 J0 0)))) ∧ (((I0 8 a1.toNatClampNeg) / (I0 0 1)) = (I0 0 23) → (vp_in a1 80 ∧ (vp_in (I0 7 a1.toNatClampNeg) 7 ∧ (∀ (I8 : mI), I8 = mu I0 20 (I0 7 a1.toNatClampNeg).toNatClampNeg (vp_nar .boolean 1) → K55 I8 J0 1)))))))
theorem P_M_count (S : mI) (I0 : mI) (J0 : mJ) (a1 : Int32) (a2 : Int32)  (hp : pM_count S I0 J0 a1 a2) (K55 : mI → mJ → Int32 → Prop) (K137 : mI → mJ → Prop) (R : mI → mJ → Prop) (c55 : ∀ (I : mI) (J : mJ) (x3 : Int32), wp_M_count_55 K55 K137 R I J a1 a2 x3 → K55 I J x3) (c137 : ∀ (I : mI) (J : mJ) , wp_M_count_137 K55 K137 R I J a1 a2  → K137 I J ) (hR : ∀ (I' : mI) (J' : mJ), qM_count S I0 J0 a1 a2 I' J' → R I' J') : wp_M_count K55 K137 R I0 J0 a1 a2 := by
  obtain ⟨hY, ⟨i, hi, rfl⟩, ⟨p, hpp, rfl⟩, ⟨q0, hq0, hw0⟩⟩ := hp
  have hb := hY.1.b
  have vi := hY.1.v hi
  have Vi := hY.1.2.2.2.1 i hi
  unfold qM_count at hR
  rw [cN_nI (n := i) (by omega), cN_nI (n := p) (by omega)] at hR
  have hvi : vp_in (nI i) 80 := vp_in_nI (by omega) (by omega)
  have hv7 : vp_in (nI (zVr S i)) 7 := i7_of (by omega)
  have ei : (nI i).toNatClampNeg = i := nI_clamp (by omega)
  have ev : (nI (zVr S i)).toNatClampNeg = zVr S i := nI_clamp (by omega)
  have ep : (nI p).toNatClampNeg = p := nI_clamp (by omega)
  have hd : zVs S i / zLn S ≤ 240 := Nat.le_trans (Nat.div_le_self _ _) vi.2.1
  have ed : nI (zVs S i) / I0 0 1 = nI (zVs S i / zLn S) := by rw [hY.ln]; exact pk_div (by omega) (by omega) (by omega)
  have h7p := i7_of hpp
  have k55 : ∀ (a : Int32) (I5 : mI), mF I0 I5 → (∀ q, mE q I0 → gW (zNv S) (zBc S) q → (a = 0 ↔ ¬ zVs S i / zLn S = gE q)) → (∀ q, mE q I0 → gW (zNv S) (zBc S) q → I5 = (if zVs S i / zLn S = gE q then mu I0 20 (zVr S i) 1 else mu I0 21 (zVr S i) 1)) → K55 I5 J0 a := by
    intro a I5 f5 ha e5
    apply c55
    unfold wp_M_count_55
    rw [ei, (hY.g f5.1).r (j := 7) (by omega) (by omega), Vi.1, ev, ep]
    refine ⟨hvi, hv7, hv7, fun I9 e9 => ⟨h7p, h7p, fun I12 e12 => ?_⟩⟩
    have f12 : mF I0 I12 := by
      rw [e12, e9]
      exact (f5.tr (mF_mu (Or.inl ⟨by omega, by omega⟩))).tr (mF_mu (Or.inl ⟨by omega, by omega⟩))
    have m12 : ∀ q s, mE q I0 → gW (zNv S) (zBc S) q → s % zNv S = p → mE (gQc S q s i) I12 := fun q s hq hw hs => cnt_M (by omega) hpp hs hq (e5 q hq hw) e9 e12
    have hY12 := hY.g f12.1
    refine ⟨S, hY12, ?_⟩
    have sum : ∀ q s, mE q I0 → gW (zNv S) (zBc S) q → s % zNv S = p → fM_weightOf S I12 J0 a = gCs S q i := fun q s hq hw hs => by
      unfold fM_weightOf gCs
      refine zSum_congr S (zNv S) (fun w hw7 => ?_)
      obtain ⟨-, -, a3, a4⟩ := (m12 q s hq hw hs).1 w (by omega)
      by_cases c : zVs S i / zLn S = gE q
      · rw [if_neg (fun y => (ha q hq hw).mp y c), if_pos c]
        exact bz_nn a3
      · rw [if_pos ((ha q hq hw).mpr c), if_neg c]
        exact bz_nn a4
    rw [hY12.r (j := 10) (by omega) (by omega), hY12.r (j := 12) (by omega) (by omega), Vi.2.2.2.2.2.2.1, Vi.2.2.2.2.2.2.2.2.2.2.1, hY12.tot, nI_1]
    refine ⟨fun h6 => hR _ _ ⟨rfl, f12, fun q s hq hw hs => ?_⟩, fun h6 => ⟨hvi, hvi, ?_⟩⟩
    · rw [sum q s hq hw hs] at h6
      rw [gCnt_lo h6]
      exact m12 q s hq hw hs
    · have k137 : ∀ (Ix : mI), mF I12 Ix → (∀ k, 18 ≤ k → k ≤ 21 → Ix k = I12 k) → Ix 0 23 = I12 0 23 → ((zSe S i + 1 = zTe S i ∧ Ix 0 30 = nI (zSe S i) ∧ Ix 0 31 = nI (zSb S i)) ∨ (¬ zSe S i + 1 = zTe S i ∧ Ix 0 30 = I12 0 30 ∧ Ix 0 31 = I12 0 31)) → K137 Ix J0 := by
        intro Ix fx rx x23 xf
        have hYx := hY12.g fx.1
        apply c137
        unfold wp_M_count_137
        rw [ei, hYx.r (j := 12) (by omega) (by omega), Vi.2.2.2.2.2.2.2.2.2.2.1]
        refine ⟨hvi, fun I18 e18 => ⟨hvi, fun I20 e20 I23 J24 hf => ?_⟩⟩
        have v13 : I18 13 i = nI (zTb S i) := by
          rw [e18, mu_other _ _ _ (by omega), hYx.r (j := 13) (by omega) (by omega)]
          exact Vi.2.2.2.2.2.2.2.2.2.2.2.2.1
        rw [v13] at e20
        have f20 : mF I12 I20 := by
          rw [e20, e18]
          exact (fx.tr (mF_mu (Or.inr ⟨rfl, by omega⟩))).tr (mF_mu (Or.inr ⟨rfl, by omega⟩))
        have x0 : ∀ k, k ≠ 28 → k ≠ 29 → I20 0 k = Ix 0 k := fun k h1 h2 => by
          rw [e20, mu_at, if_neg (fun y => h2 y.2), e18, mu_at, if_neg (fun y => h1 y.2)]
        have xr : ∀ k, k ≠ 0 → I20 k = Ix k := fun k hk => by rw [e20, mu_other _ _ _ hk, e18, mu_other _ _ _ hk]
        obtain ⟨rfl, g1, g2⟩ := hf
        apply hR
        refine ⟨rfl, f12.tr (f20.tr ⟨⟨fun a q1 q2 => g1 a (by omega) (by omega), fun k _ => by rw [g1 0 (by omega) (by omega)]⟩, g1 22 (by omega) (by omega)⟩), fun q s hq hw hs => ?_⟩
        rw [sum q s hq hw hs] at h6
        rw [gCnt_hi h6]
        obtain ⟨m1, m2, m3, m4, m5, m6⟩ := m12 q s hq hw hs
        have g0 : I23 0 = I20 0 := g1 0 (by omega) (by omega)
        refine ⟨fun w hw7 => ?_, by rw [g0, x0 23 (by omega) (by omega), x23]; exact m2, by rw [g0, e20, mu_at, if_neg (by omega), e18, mu_at, if_pos ⟨rfl, rfl⟩]; rfl, by rw [g0, e20, mu_at, if_pos ⟨rfl, rfl⟩]; rfl, ?_, ?_⟩
        · obtain ⟨b1, b2, -, -⟩ := m1 w hw7
          obtain ⟨b3, b4⟩ := g2 w hw7
          rw [g1 18 (by omega) (by omega), g1 19 (by omega) (by omega), xr 18 (by omega), xr 19 (by omega), rx 18 (by omega) (by omega), rx 19 (by omega) (by omega)]
          exact ⟨b1, b2, b3, b4⟩
        · rw [g0, x0 30 (by omega) (by omega)]
          show _ = nI (if zSe S i + 1 = zTe S i then zSe S i else gFe q)
          rcases xf with ⟨c, y1, y2⟩ | ⟨c, y1, y2⟩
          · rw [if_pos c]; exact y1
          · rw [if_neg c, y1]; exact m5
        · rw [g0, x0 31 (by omega) (by omega)]
          show _ = nI (if zSe S i + 1 = zTe S i then zSb S i else gFb q)
          rcases xf with ⟨c, y1, y2⟩ | ⟨c, y1, y2⟩
          · rw [if_pos c]; exact y2
          · rw [if_neg c, y2]; exact m6
      have t11 : I12 11 i = nI (zSb S i) := by rw [hY12.r (j := 11) (by omega) (by omega)]; exact Vi.2.2.2.2.2.2.2.2.1
      refine ⟨fun h7 => k137 I12 (mF.rf _) (fun _ _ _ => rfl) rfl (Or.inr ⟨fun z => h7 (by rw [z]), rfl, rfl⟩), fun h7 => ⟨hvi, fun I26 e26 => ⟨hvi, fun I28 e28 => ?_⟩⟩⟩
      rw [nI_eq (by omega) (by omega)] at h7
      have v11 : I26 11 i = nI (zSb S i) := by rw [e26, mu_other _ _ _ (by omega)]; exact t11
      rw [v11] at e28
      refine k137 I28 ?_ (fun k h1 h2 => ?_) ?_ (Or.inl ⟨h7, ?_, ?_⟩)
      · rw [e28, e26]; exact (mF_mu (Or.inr ⟨rfl, by omega⟩)).tr (mF_mu (Or.inr ⟨rfl, by omega⟩))
      · rw [e28, mu_other _ _ _ (by omega), e26, mu_other _ _ _ (by omega)]
      · rw [e28, mu_at, if_neg (by omega), e26, mu_at, if_neg (by omega)]
      · rw [e28, mu_at, if_neg (by omega), e26, mu_at, if_pos ⟨rfl, rfl⟩]
      · rw [e28, mu_at, if_pos ⟨rfl, rfl⟩]
  unfold wp_M_count
  rw [ei, hY.r (j := 7) (by omega) (by omega), hY.r (j := 8) (by omega) (by omega), Vi.1, Vi.2.2.1, ed, ev, nar_1]
  have hln : ¬ (I0 0 1) = 0 := by rw [hY.ln]; exact nI_ne0 (by omega) (by omega)
  have ee : ∀ q, mE q I0 → gW (zNv S) (zBc S) q → (nI (zVs S i / zLn S) = I0 0 23 ↔ zVs S i / zLn S = gE q) := fun q hq hw => by
    rw [hq.2.1]
    exact nI_eq (by omega) (by have := hw.1; omega)
  refine ⟨hvi, hln, fun h => ⟨hvi, hv7, fun I5 e5 => k55 0 I5 ?_ (fun q hq hw => ⟨fun _ z => h ((ee q hq hw).mpr z), fun _ => rfl⟩) (fun q hq hw => ?_)⟩, fun h => ⟨hvi, hv7, fun I5 e5 => k55 1 I5 ?_ (fun q hq hw => ⟨fun z => absurd z (by decide), fun z => absurd ((ee q hq hw).mp h) z⟩) (fun q hq hw => ?_)⟩⟩
  · rw [e5]; exact mF_mu (Or.inl ⟨by omega, by omega⟩)
  · rw [if_neg (fun z => h ((ee q hq hw).mpr z))]; exact e5
  · rw [e5]; exact mF_mu (Or.inl ⟨by omega, by omega⟩)
  · rw [if_pos ((ee q hq hw).mp h)]; exact e5
set_option maxHeartbeats 4000000 in
set_option maxRecDepth 100000 in
theorem C_M_count (l : Launch) (D : va_G) (ca : Nat → Nat) (ad : Nat → Nat) (S : mI) (I0 : mI) (J0 : mJ) (a1 : Int32) (a2 : Int32)  (hp : pM_count S I0 J0 a1 a2) : Met l yM_count wM_count ({ frames := 1, cells := 0, slots := 0, locals := 23 } : Room) (va_Pc [.ref (ad 0), .int a1, .int a2] (mPre D vwCl (xty ca) 23 ad (ymk ca ad) nL I0 J0)) (mQv D vwCl 23 ad (ymk ca ad) (qM_count S I0 J0 a1 a2)) 0 0 (mA 23 ad) := by
  refine Met.ofW (cc := cM_count) (maxL := 5) (ret := none) (by decide) rfl ?_
  intro p e s m args below meth c s₁ B hml hv
  obtain ⟨rfl, hP, hK, hD0, hN⟩ := hv
  have hx := B.exec
  have hb := B.bytes
  have hr := B.returns
  have htb : ∀ w ∈ wb, w.before _ s = true := fun w h => atoms_spec (ws := wM_count) B.pre w (List.mem_cons_of_mem _ h)
  have hown : s.vm.findClass RM = some m.cls := findClass_of_methodNamed B.named
  have hlk := B.notSynchronized
  have hD := mw_Dm hD0
  have hS : va_S (mA 23 ad) s.heap s.heap [] := va_S.rf
  have hl := lv_entry ([.ref (ad 0), .int a1, .int a2]) (n := 5) (Nat.le_of_ble_eq_true rfl)
  rw [lg_entry_eq]
  generalize (lg_sl ([.ref (ad 0), .int a1, .int a2]) ++ List.replicate (5 - (lg_sl ([.ref (ad 0), .int a1, .int a2])).length) Slot.unset).toArray = ls at hl ⊢
  have hl : lv_has ls 5 [(0, .ref (ad 0)), (1, .int a1), (2, .int a2)] := hl
  obtain ⟨K55, hK55⟩ : ∃ K : mI → mJ → Int32 → Prop, K = (fun I J x3 => ∀ (H : Heap) (locs : List Loc) (ls : Array Slot), va_P D vwCl (mw 23 ad (ymk ca ad) I J) H → va_S (mA 23 ad) s.heap H locs → lv_has ls 5 [(0, .ref (ad 0)), (1, .int a1), (2, .int a2), (3, .int x3)] → W p l e (headSpec wM_count ({ frames := 1, cells := 0, slots := 0, locals := 23 } : Room)).room s m (([.ref (ad 0), .int a1, .int a2] : List Value).toArray) below meth c H locs 0 0 (MQ below (mQv D vwCl 23 ad (ymk ca ad) (qM_count S I0 J0 a1 a2)) (([.ref (ad 0), .int a1, .int a2] : List Value).toArray) s 0 0 (mA 23 ad)) (F0 m 55 ls [])) := ⟨_, rfl⟩
  obtain ⟨K137, hK137⟩ : ∃ K : mI → mJ → Prop, K = (fun I J  => ∀ (H : Heap) (locs : List Loc) (ls : Array Slot), va_P D vwCl (mw 23 ad (ymk ca ad) I J) H → va_S (mA 23 ad) s.heap H locs → lv_has ls 5 [(0, .ref (ad 0)), (1, .int a1)] → W p l e (headSpec wM_count ({ frames := 1, cells := 0, slots := 0, locals := 23 } : Room)).room s m (([.ref (ad 0), .int a1, .int a2] : List Value).toArray) below meth c H locs 0 0 (MQ below (mQv D vwCl 23 ad (ymk ca ad) (qM_count S I0 J0 a1 a2)) (([.ref (ad 0), .int a1, .int a2] : List Value).toArray) s 0 0 (mA 23 ad)) (F0 m 137 ls [])) := ⟨_, rfl⟩
  have c55 : ∀ (I : mI) (J : mJ) (x3 : Int32), wp_M_count_55 K55 K137 (qM_count S I0 J0 a1 a2) I J a1 a2 x3 → K55 I J x3 := by
    intro I J x3 h
    rw [hK55]
    intro H locs ls hP hS hl
    unfold wp_M_count_55 at h
    refine lv_aload_n hx hb dM_count_55 rfl (lv_at hl 0 rfl) ?_
    refine va_get (D := D) (ci := 6) (v := .ref (ad 18)) (C := RM) (T := TM) (N := 33) hx hb htb inM hown hK hP 0 (mw_at (by decide) (ym_0 _ _ _ _)) rfl 24 (by decide) (htb _ k2_196) (fun _ h9 => h9) rfl dM_count_56 ?_
    refine lv_aload_n hx hb dM_count_59 rfl (lv_at hl 0 rfl) ?_
    refine va_get (D := D) (ci := 6) (v := .ref (ad 7)) (C := RM) (T := TM) (N := 33) hx hb htb inM hown hK hP 0 (mw_at (by decide) (ym_0 _ _ _ _)) rfl 12 (by decide) (htb _ k2_184) (fun _ h9 => h9) rfl dM_count_60 ?_
    refine lv_iload_n hx hb dM_count_63 rfl (lv_at hl 1 rfl) ?_
    obtain ⟨hn9, h⟩ := h
    refine mr_iald hx hb hK hP 7 0 (by decide) rfl rfl hn9 dM_count_64 ?_
    refine lv_dup2_11 hx hb dM_count_65 rfl rfl ?_
    obtain ⟨hn10, h⟩ := h
    refine mr_iald hx hb hK hP 18 0 (by decide) rfl rfl hn10 dM_count_66 ?_
    refine lv_iconst (v := 2) hx hb dM_count_67 (by decide) ?_
    refine lv_iadd hx hb dM_count_68 ?_
    obtain ⟨hn11, h⟩ := h
    refine mr_iast hx hb hK hP hD hS 18 0 (by decide) (fun _ => rfl) rfl hn11 dM_count_69 (fun H locs hP hS => ?_)
    generalize heI12 : mu I 18 (I 7 a1.toNatClampNeg).toNatClampNeg ((I 18 (I 7 a1.toNatClampNeg).toNatClampNeg) + 2) = I12 at hP
    have h := h I12 heI12.symm
    refine lv_aload_n hx hb dM_count_70 rfl (lv_at hl 0 rfl) ?_
    refine va_get (D := D) (ci := 6) (v := .ref (ad 18)) (C := RM) (T := TM) (N := 33) hx hb htb inM hown hK hP 0 (mw_at (by decide) (ym_0 _ _ _ _)) rfl 24 (by decide) (htb _ k2_196) (fun _ h9 => h9) rfl dM_count_71 ?_
    refine lv_iload_n hx hb dM_count_74 rfl (lv_at hl 2 rfl) ?_
    refine lv_dup2_11 hx hb dM_count_75 rfl rfl ?_
    obtain ⟨hn13, h⟩ := h
    refine mr_iald hx hb hK hP 18 0 (by decide) rfl rfl hn13 dM_count_76 ?_
    refine lv_iconst (v := 1) hx hb dM_count_77 (by decide) ?_
    refine lv_iadd hx hb dM_count_78 ?_
    obtain ⟨hn14, h⟩ := h
    refine mr_iast hx hb hK hP hD hS 18 0 (by decide) (fun _ => rfl) rfl hn14 dM_count_79 (fun H locs hP hS => ?_)
    generalize heI15 : mu I12 18 a2.toNatClampNeg ((I12 18 a2.toNatClampNeg) + 1) = I15 at hP
    have h := h I15 heI15.symm
    refine lv_aload_n hx hb dM_count_80 rfl (lv_at hl 0 rfl) ?_
    refine lv_iload_n hx hb dM_count_81 rfl (lv_at hl 3 rfl) ?_
    obtain ⟨S16, h⟩ := h
    obtain ⟨hp17, h⟩ := h
    refine mc_r (va_runV (As := [.int x3]) (rest := []) ⟨hx, hb, hml, hown, htb⟩ (C_M_weightOf l D ca ad S16 I15 J x3 hp17) (cwV 1 htb (gd_v k3_79 k3_81 ks29 k1_8 k3_82) rfl rfl rfl (by decide +kernel) ⟨Nat.le_of_ble_eq_true rfl, Nat.le_of_ble_eq_true rfl⟩) (mPre_V hK hP hD hN rfl (mw_at (by decide) (ym_0 _ _ _ _))) rfl rfl hl.1 rfl (lv_room (Nat.le_of_ble_eq_true rfl)) dM_count_82 ⟨Nat.le_of_ble_eq_true rfl, Nat.le_of_ble_eq_true rfl⟩) hS (fun H locs hP hS => ?_)
    refine lv_istore (lv' := [(4, .int (fM_weightOf S16 I15 J x3)), (0, .ref (ad 0)), (1, .int a1), (2, .int a2), (3, .int x3)]) hx hb dM_count_85 hl (by decide) rfl (fun ls hl => ?_)
    refine lv_iconst (v := 3) hx hb dM_count_87 (by decide) ?_
    refine lv_iload hx hb dM_count_88 (lv_at hl 0 rfl) ?_
    refine lv_imul hx hb dM_count_90 ?_
    refine lv_iconst (v := 2) hx hb dM_count_91 (by decide) ?_
    refine lv_aload_n hx hb dM_count_92 rfl (lv_at hl 1 rfl) ?_
    refine va_get (D := D) (ci := 6) (v := .int (I15 0 3)) (C := RM) (T := TM) (N := 33) hx hb htb inM hown hK hP 0 (mw_at (by decide) (ym_0 _ _ _ _)) rfl 3 (by decide) (htb _ k2_175) (fun _ h9 => h9) rfl dM_count_93 ?_
    refine lv_imul hx hb dM_count_96 ?_
    refine lv_icmp_lt (tgt := 161) hx hb dM_count_97 (by decide) (fun hc => ?_) (fun hc => ?_)
    · have h := h.1 hc
      exact me_v hx hb hr hlk hP hS h dM_count_161
    · have h := h.2 hc
      refine lv_aload_n hx hb dM_count_100 rfl (lv_at hl 1 rfl) ?_
      refine va_get (D := D) (ci := 6) (v := .ref (ad 10)) (C := RM) (T := TM) (N := 33) hx hb htb inM hown hK hP 0 (mw_at (by decide) (ym_0 _ _ _ _)) rfl 15 (by decide) (htb _ k2_187) (fun _ h9 => h9) rfl dM_count_101 ?_
      refine lv_iload_n hx hb dM_count_104 rfl (lv_at hl 2 rfl) ?_
      obtain ⟨hn18, h⟩ := h
      refine mr_iald hx hb hK hP 10 0 (by decide) rfl rfl hn18 dM_count_105 ?_
      refine lv_iconst (v := 1) hx hb dM_count_106 (by decide) ?_
      refine lv_iadd hx hb dM_count_107 ?_
      refine lv_aload_n hx hb dM_count_108 rfl (lv_at hl 1 rfl) ?_
      refine va_get (D := D) (ci := 6) (v := .ref (ad 12)) (C := RM) (T := TM) (N := 33) hx hb htb inM hown hK hP 0 (mw_at (by decide) (ym_0 _ _ _ _)) rfl 17 (by decide) (htb _ k2_189) (fun _ h9 => h9) rfl dM_count_109 ?_
      refine lv_iload_n hx hb dM_count_112 rfl (lv_at hl 2 rfl) ?_
      obtain ⟨hn19, h⟩ := h
      refine mr_iald hx hb hK hP 12 0 (by decide) rfl rfl hn19 dM_count_113 ?_
      refine lv_icmp_ne (tgt := 137) hx hb dM_count_114 (by decide) (fun hc => ?_) (fun hc => ?_)
      · have h := h.1 hc
        rw [hK137] at h
        exact h _ _ _ hP hS (lv_sub hl [1, 2] rfl)
      · have h := h.2 hc
        refine lv_aload_n hx hb dM_count_117 rfl (lv_at hl 1 rfl) ?_
        refine lv_aload_n hx hb dM_count_118 rfl (lv_at hl 1 rfl) ?_
        refine va_get (D := D) (ci := 6) (v := .ref (ad 10)) (C := RM) (T := TM) (N := 33) hx hb htb inM hown hK hP 0 (mw_at (by decide) (ym_0 _ _ _ _)) rfl 15 (by decide) (htb _ k2_187) (fun _ h9 => h9) rfl dM_count_119 ?_
        refine lv_iload_n hx hb dM_count_122 rfl (lv_at hl 2 rfl) ?_
        obtain ⟨hn20, h⟩ := h
        refine mr_iald hx hb hK hP 10 0 (by decide) rfl rfl hn20 dM_count_123 ?_
        refine mr_puti hx hb htb inM tyM tyM_ok nmM hown hK hP hD hS 0 (by decide) (ym_0 _ _ _ _) rfl 30 (by decide) (htb _ k2_202) (fun _ h9 => h9) rfl (by decide +kernel) (Nat.le_of_ble_eq_true rfl) (ym_p30 _ _ _ _ _) dM_count_124 (fun H locs hP hS => ?_)
        generalize heI21 : mu I15 0 30 (I15 10 a1.toNatClampNeg) = I21 at hP
        have h := h I21 heI21.symm
        refine lv_aload_n hx hb dM_count_127 rfl (lv_at hl 1 rfl) ?_
        refine lv_aload_n hx hb dM_count_128 rfl (lv_at hl 1 rfl) ?_
        refine va_get (D := D) (ci := 6) (v := .ref (ad 11)) (C := RM) (T := TM) (N := 33) hx hb htb inM hown hK hP 0 (mw_at (by decide) (ym_0 _ _ _ _)) rfl 16 (by decide) (htb _ k2_188) (fun _ h9 => h9) rfl dM_count_129 ?_
        refine lv_iload_n hx hb dM_count_132 rfl (lv_at hl 2 rfl) ?_
        obtain ⟨hn22, h⟩ := h
        refine mr_iald hx hb hK hP 11 0 (by decide) rfl rfl hn22 dM_count_133 ?_
        refine mr_puti hx hb htb inM tyM tyM_ok nmM hown hK hP hD hS 0 (by decide) (ym_0 _ _ _ _) rfl 31 (by decide) (htb _ k2_203) (fun _ h9 => h9) rfl (by decide +kernel) (Nat.le_of_ble_eq_true rfl) (ym_p31 _ _ _ _ _) dM_count_134 (fun H locs hP hS => ?_)
        generalize heI23 : mu I21 0 31 (I21 11 a1.toNatClampNeg) = I23 at hP
        have h := h I23 heI23.symm
        rw [hK137] at h
        exact h _ _ _ hP hS (lv_sub hl [1, 2] rfl)
  have c137 : ∀ (I : mI) (J : mJ) , wp_M_count_137 K55 K137 (qM_count S I0 J0 a1 a2) I J a1 a2  → K137 I J  := by
    intro I J  h
    rw [hK137]
    intro H locs ls hP hS hl
    unfold wp_M_count_137 at h
    refine lv_aload_n hx hb dM_count_137 rfl (lv_at hl 0 rfl) ?_
    refine lv_aload_n hx hb dM_count_138 rfl (lv_at hl 0 rfl) ?_
    refine va_get (D := D) (ci := 6) (v := .ref (ad 12)) (C := RM) (T := TM) (N := 33) hx hb htb inM hown hK hP 0 (mw_at (by decide) (ym_0 _ _ _ _)) rfl 17 (by decide) (htb _ k2_189) (fun _ h9 => h9) rfl dM_count_139 ?_
    refine lv_iload_n hx hb dM_count_142 rfl (lv_at hl 1 rfl) ?_
    obtain ⟨hn24, h⟩ := h
    refine mr_iald hx hb hK hP 12 0 (by decide) rfl rfl hn24 dM_count_143 ?_
    refine mr_puti hx hb htb inM tyM tyM_ok nmM hown hK hP hD hS 0 (by decide) (ym_0 _ _ _ _) rfl 28 (by decide) (htb _ k2_200) (fun _ h9 => h9) rfl (by decide +kernel) (Nat.le_of_ble_eq_true rfl) (ym_p28 _ _ _ _ _) dM_count_144 (fun H locs hP hS => ?_)
    generalize heI25 : mu I 0 28 (I 12 a1.toNatClampNeg) = I25 at hP
    have h := h I25 heI25.symm
    refine lv_aload_n hx hb dM_count_147 rfl (lv_at hl 0 rfl) ?_
    refine lv_aload_n hx hb dM_count_148 rfl (lv_at hl 0 rfl) ?_
    refine va_get (D := D) (ci := 6) (v := .ref (ad 13)) (C := RM) (T := TM) (N := 33) hx hb htb inM hown hK hP 0 (mw_at (by decide) (ym_0 _ _ _ _)) rfl 18 (by decide) (htb _ k2_190) (fun _ h9 => h9) rfl dM_count_149 ?_
    refine lv_iload_n hx hb dM_count_152 rfl (lv_at hl 1 rfl) ?_
    obtain ⟨hn26, h⟩ := h
    refine mr_iald hx hb hK hP 13 0 (by decide) rfl rfl hn26 dM_count_153 ?_
    refine mr_puti hx hb htb inM tyM tyM_ok nmM hown hK hP hD hS 0 (by decide) (ym_0 _ _ _ _) rfl 29 (by decide) (htb _ k2_201) (fun _ h9 => h9) rfl (by decide +kernel) (Nat.le_of_ble_eq_true rfl) (ym_p29 _ _ _ _ _) dM_count_154 (fun H locs hP hS => ?_)
    generalize heI27 : mu I25 0 29 (I25 13 a1.toNatClampNeg) = I27 at hP
    have h := h I27 heI27.symm
    refine lv_aload_n hx hb dM_count_157 rfl (lv_at hl 0 rfl) ?_
    refine mc_v (va_runV (As := []) (rest := []) ⟨hx, hb, hml, hown, htb⟩ (C_M_forget l D ca ad I27 J) (cwV 0 htb (gd_v k3_55 k3_57 ks23 k1_8 k3_58) rfl rfl rfl (by decide +kernel) ⟨Nat.le_of_ble_eq_true rfl, Nat.le_of_ble_eq_true rfl⟩) (mPre_V hK hP hD hN rfl (mw_at (by decide) (ym_0 _ _ _ _))) rfl rfl hl.1 rfl (lv_room (Nat.le_of_ble_eq_true rfl)) dM_count_158 ⟨Nat.le_of_ble_eq_true rfl, Nat.le_of_ble_eq_true rfl⟩) hS (fun I30 J31 H locs hpost hP hS => ?_)
    have h := h I30 J31 hpost
    exact me_v hx hb hr hlk hP hS h dM_count_161
  have h := P_M_count S I0 J0 a1 a2  hp K55 K137 (qM_count S I0 J0 a1 a2) c55 c137 (fun _ _ h => h)
  unfold wp_M_count at h
  refine lv_aload_n hx hb dM_count_0 rfl (lv_at hl 0 rfl) ?_
  refine va_get (D := D) (ci := 6) (v := .ref (ad 8)) (C := RM) (T := TM) (N := 33) hx hb htb inM hown hK hP 0 (mw_at (by decide) (ym_0 _ _ _ _)) rfl 13 (by decide) (htb _ k2_185) (fun _ h9 => h9) rfl dM_count_1 ?_
  refine lv_iload_n hx hb dM_count_4 rfl (lv_at hl 1 rfl) ?_
  obtain ⟨hn1, h⟩ := h
  refine mr_iald hx hb hK hP 8 0 (by decide) rfl rfl hn1 dM_count_5 ?_
  refine lv_aload_n hx hb dM_count_6 rfl (lv_at hl 0 rfl) ?_
  refine va_get (D := D) (ci := 6) (v := .int (I0 0 1)) (C := RM) (T := TM) (N := 33) hx hb htb inM hown hK hP 0 (mw_at (by decide) (ym_0 _ _ _ _)) rfl 1 (by decide) (htb _ k2_173) (fun _ h9 => h9) rfl dM_count_7 ?_
  obtain ⟨hz2, h⟩ := h
  refine lv_idiv hx hb dM_count_10 hz2 ?_
  refine lv_aload_n hx hb dM_count_11 rfl (lv_at hl 0 rfl) ?_
  refine va_get (D := D) (ci := 6) (v := .int (I0 0 23)) (C := RM) (T := TM) (N := 33) hx hb htb inM hown hK hP 0 (mw_at (by decide) (ym_0 _ _ _ _)) rfl 23 (by decide) (htb _ k2_195) (fun _ h9 => h9) rfl dM_count_12 ?_
  refine lv_icmp_ne (tgt := 22) hx hb dM_count_15 (by decide) (fun hc => ?_) (fun hc => ?_)
  · have h := h.1 hc
    refine lv_iconst (v := 0) hx hb dM_count_22 (by decide) ?_
    refine lv_istore_n (lv' := [(3, .int 0), (0, .ref (ad 0)), (1, .int a1), (2, .int a2)]) hx hb dM_count_23 rfl hl (by decide) rfl (fun ls hl => ?_)
    refine lv_iload_n hx hb dM_count_24 rfl (lv_at hl 0 rfl) ?_
    refine lv_if_eq (tgt := 43) hx hb dM_count_25 (by decide) (fun hc => ?_) (fun hc => ?_)
    · skip
      refine lv_aload_n hx hb dM_count_43 rfl (lv_at hl 1 rfl) ?_
      refine va_get (D := D) (ci := 6) (v := .ref (ad 21)) (C := RM) (T := TM) (N := 33) hx hb htb inM hown hK hP 0 (mw_at (by decide) (ym_0 _ _ _ _)) rfl 27 (by decide) (htb _ k2_199) (fun _ h9 => h9) rfl dM_count_44 ?_
      refine lv_aload_n hx hb dM_count_47 rfl (lv_at hl 1 rfl) ?_
      refine va_get (D := D) (ci := 6) (v := .ref (ad 7)) (C := RM) (T := TM) (N := 33) hx hb htb inM hown hK hP 0 (mw_at (by decide) (ym_0 _ _ _ _)) rfl 12 (by decide) (htb _ k2_184) (fun _ h9 => h9) rfl dM_count_48 ?_
      refine lv_iload_n hx hb dM_count_51 rfl (lv_at hl 2 rfl) ?_
      obtain ⟨hn3, h⟩ := h
      refine mr_iald hx hb hK hP 7 0 (by decide) rfl rfl hn3 dM_count_52 ?_
      refine lv_iconst (v := 1) hx hb dM_count_53 (by decide) ?_
      obtain ⟨hn4, h⟩ := h
      refine mr_zast hx hb hK hP hD hS 21 1 (by decide) (fun _ => rfl) rfl hn4 dM_count_54 (fun H locs hP hS => ?_)
      generalize heI5 : mu I0 21 (I0 7 a1.toNatClampNeg).toNatClampNeg (vp_nar .boolean 1) = I5 at hP
      have h := h I5 heI5.symm
      rw [hK55] at h
      exact h _ _ _ hP hS (lv_sub hl [1, 2, 3, 0] rfl)
    · first | exact absurd hc (by decide) | exact absurd (by decide) hc
  · have h := h.2 hc
    refine lv_iconst (v := 1) hx hb dM_count_18 (by decide) ?_
    refine lv_goto (tgt := 23) hx hb dM_count_19 (by decide) ?_
    refine lv_istore_n (lv' := [(3, .int 1), (0, .ref (ad 0)), (1, .int a1), (2, .int a2)]) hx hb dM_count_23 rfl hl (by decide) rfl (fun ls hl => ?_)
    refine lv_iload_n hx hb dM_count_24 rfl (lv_at hl 0 rfl) ?_
    refine lv_if_eq (tgt := 43) hx hb dM_count_25 (by decide) (fun hc => ?_) (fun hc => ?_)
    · first | exact absurd hc (by decide) | exact absurd (by decide) hc
    · skip
      refine lv_aload_n hx hb dM_count_28 rfl (lv_at hl 1 rfl) ?_
      refine va_get (D := D) (ci := 6) (v := .ref (ad 20)) (C := RM) (T := TM) (N := 33) hx hb htb inM hown hK hP 0 (mw_at (by decide) (ym_0 _ _ _ _)) rfl 26 (by decide) (htb _ k2_198) (fun _ h9 => h9) rfl dM_count_29 ?_
      refine lv_aload_n hx hb dM_count_32 rfl (lv_at hl 1 rfl) ?_
      refine va_get (D := D) (ci := 6) (v := .ref (ad 7)) (C := RM) (T := TM) (N := 33) hx hb htb inM hown hK hP 0 (mw_at (by decide) (ym_0 _ _ _ _)) rfl 12 (by decide) (htb _ k2_184) (fun _ h9 => h9) rfl dM_count_33 ?_
      refine lv_iload_n hx hb dM_count_36 rfl (lv_at hl 2 rfl) ?_
      obtain ⟨hn6, h⟩ := h
      refine mr_iald hx hb hK hP 7 0 (by decide) rfl rfl hn6 dM_count_37 ?_
      refine lv_iconst (v := 1) hx hb dM_count_38 (by decide) ?_
      obtain ⟨hn7, h⟩ := h
      refine mr_zast hx hb hK hP hD hS 20 1 (by decide) (fun _ => rfl) rfl hn7 dM_count_39 (fun H locs hP hS => ?_)
      generalize heI8 : mu I0 20 (I0 7 a1.toNatClampNeg).toNatClampNeg (vp_nar .boolean 1) = I8 at hP
      have h := h I8 heI8.symm
      refine lv_goto (tgt := 55) hx hb dM_count_40 (by decide) ?_
      rw [hK55] at h
      exact h _ _ _ hP hS (lv_sub hl [1, 2, 3, 0] rfl)
def wp_M_item (R : Int32 → mI → mJ → Prop) (I0 : mI) (J0 : mJ) (a1 : Int32) (a2 : Int32) (a3 : Int32) : Prop :=
  (¬ (I0 0 0) = 0 ∧ ((100 ≤ a1 → (vp_in (a1 - a1 / 100 * 100) 80 ∧ (vp_in (I0 7 (a1 - a1 / 100 * 100).toNatClampNeg) 7 ∧ (((I0 19 (I0 7 (a1 - a1 / 100 * 100).toNatClampNeg).toNatClampNeg) = 0 → (vp_in (I0 7 (a1 - a1 / 100 * 100).toNatClampNeg) 7 ∧ (∀ (I5 : mI), I5 = mu I0 19 (I0 7 (a1 - a1 / 100 * 100).toNatClampNeg).toNatClampNeg (vp_nar .boolean 1) → (vp_in (I0 7 (a1 - a1 / 100 * 100).toNatClampNeg) 7 ∧ (vp_in (I0 7 (a1 - a1 / 100 * 100).toNatClampNeg) 7 ∧ (∀ (I8 : mI), I8 = mu I5 18 (I0 7 (a1 - a1 / 100 * 100).toNatClampNeg).toNatClampNeg ((I5 18 (I0 7 (a1 - a1 / 100 * 100).toNatClampNeg).toNatClampNeg) / 2) → (vp_in (a3 - a3 / (I0 0 0) * (I0 0 0)) 7 ∧ (vp_in (a3 - a3 / (I0 0 0) * (I0 0 0)) 7 ∧ (∀ (I11 : mI), I11 = mu I8 18 (a3 - a3 / (I0 0 0) * (I0 0 0)).toNatClampNeg ((I8 18 (a3 - a3 / (I0 0 0) * (I0 0 0)).toNatClampNeg) + 5) → R 1 I11 J0))))))))) ∧ (¬ ((I0 19 (I0 7 (a1 - a1 / 100 * 100).toNatClampNeg).toNatClampNeg) = 0) → R 0 I0 J0))))) ∧ (¬ (100 ≤ a1) → (∃ (S12 : mI), (pM_votable S12 I0 J0 a1 a2 a3 ∧ (∀ (r14 : Int32) (I15 : mI) (J16 : mJ), qM_votable S12 I0 J0 a1 a2 a3 r14 I15 J16 → ((r14 = 0 → (narrow .boolean (.int r14) = .int r14 ∧ R r14 I15 J16)) ∧ (¬ (r14 = 0) → (∃ (S18 : mI), (pM_count S18 I15 J16 a1 (a3 - a3 / (I0 0 0) * (I0 0 0)) ∧ (∀ (I21 : mI) (J22 : mJ), qM_count S18 I15 J16 a1 (a3 - a3 / (I0 0 0) * (I0 0 0)) I21 J22 → (narrow .boolean (.int r14) = .int r14 ∧ R r14 I21 J22))))))))))))
theorem P_M_item (S : mI) (I0 : mI) (J0 : mJ) (a1 : Int32) (a2 : Int32) (a3 : Int32)  (hp : pM_item S I0 J0 a1 a2 a3)  (R : Int32 → mI → mJ → Prop)  (hR : ∀ (r : Int32) (I' : mI) (J' : mJ), qM_item S I0 J0 a1 a2 a3 r I' J' → R r I' J') : wp_M_item R I0 J0 a1 a2 a3 := by
  obtain ⟨hY, hx, ⟨p, hp0, rfl⟩, ⟨s, hs, rfl⟩, ⟨q0, hq0, hw0⟩⟩ := hp
  have hb := hY.1.b
  have hp := hp0
  unfold qM_item at hR
  rw [cN_nI (n := p) (by omega), cN_nI (n := s) (by omega)] at hR
  have hmod := Nat.mod_lt s (show 0 < zNv S by omega)
  unfold wp_M_item
  rw [hY.nv, pk_rem (by omega) (by omega) (by omega), show (nI (s % zNv S)).toNatClampNeg = s % zNv S from nI_clamp (by omega)]
  refine ⟨nI_ne0 (by omega) (by omega), fun h => ?_, fun h => ?_⟩
  · rcases hx.2 with hv | ⟨o, t, ho, ht, eo⟩
    · exfalso
      rw [hx.1] at h
      have := (nI_leI (a := 100) (by omega) (by omega)).mp h
      omega
    · have vo := hY.1.v ho
      have em : a1 - a1 / 100 * 100 = nI o := by
        rw [hx.1]
        have := pk_rem (a := cN a1) (d := 100) (by omega) (by omega) (by omega)
        rw [show (100 : Int32) = nI 100 from rfl, this]
        congr 1
        omega
      have eo1 : cN a1 % 100 = o := by omega
      rw [em, show (nI o).toNatClampNeg = o from nI_clamp (by omega), hY.r (j := 7) (by omega) (by omega), (hY.1.2.2.2.1 o ho).1, show (nI (zVr S o)).toNatClampNeg = zVr S o from nI_clamp (by omega), nar_1]
      have i7 : vp_in (nI (zVr S o)) 7 := i7_of (by omega)
      have j7 : vp_in (nI (s % zNv S)) 7 := i7_of (by omega)
      have fit : ∀ q, gFit S q p s (cN a1) ↔ gP q (zVr S o) = false := fun q => by
        unfold gFit
        rw [if_neg (by omega), eo1]
      refine ⟨vp_in_nI (by omega) (by omega), i7, fun h2 => ⟨i7, fun I5 e5 => ⟨i7, i7, fun I8 e8 => ⟨j7, j7, fun I11 e11 => hR _ _ _ ⟨rfl, ?_, Or.inr rfl, fun q hq hw => ?_⟩⟩⟩⟩, fun h2 => hR _ _ _ ⟨rfl, mF.rf I0, Or.inl rfl, fun q hq hw => ?_⟩⟩
      · rw [e11, e8, e5]
        exact ((mF_mu (Or.inl ⟨by omega, by omega⟩)).tr (mF_mu (Or.inl ⟨by omega, by omega⟩))).tr (mF_mu (Or.inl ⟨by omega, by omega⟩))
      · obtain ⟨q1, q2, q3, q4, q5, q6⟩ := hq
        have z0 : gP q (zVr S o) = false := by
          rw [(q1 _ (by omega)).2.1] at h2
          exact bz_0.mp h2
        refine ⟨?_, fun _ => rfl, fun z => absurd ((fit q).mpr z0) z⟩
        unfold gItem
        rw [if_pos ((fit q).mpr z0), if_neg (by omega), eo1]
        have r0 : I11 0 = I0 0 := by rw [e11, mu_other _ _ _ (by omega), e8, mu_other _ _ _ (by omega), e5, mu_other _ _ _ (by omega)]
        have b8 : ∀ w, w < 7 → I8 18 w = upd (gB q) (zVr S o) (gB q (zVr S o) / 2) w := fun w hw => by
          rw [e8, mu_at, e5, mu_other _ _ _ (by omega)]
          unfold upd
          by_cases ew : w = zVr S o
          · rw [if_pos ⟨rfl, ew⟩, if_pos ew, (q1 _ (by omega)).1]
          · rw [if_neg (fun y => ew y.2), if_neg ew, (q1 w hw).1]
        refine ⟨fun w hw7 => ?_, by rw [r0]; exact q2, by rw [r0]; exact q3, by rw [r0]; exact q4, by rw [r0]; exact q5, by rw [r0]; exact q6⟩
        obtain ⟨w1, w2, w3, w4⟩ := q1 w hw7
        refine ⟨?_, ?_, ?_, ?_⟩
        · rw [e11, mu_at]
          show _ = upd (upd (gB q) (zVr S o) (gB q (zVr S o) / 2)) (s % zNv S) (upd (gB q) (zVr S o) (gB q (zVr S o) / 2) (s % zNv S) + 5) w
          rw [b8 _ (by omega)]
          by_cases ew : w = s % zNv S
          · rw [if_pos ⟨rfl, ew⟩, ew, pk_us]
          · rw [if_neg (fun y => ew y.2), b8 w hw7, pk_un ew]
        · rw [e11, mu_other _ _ _ (by omega), e8, mu_other _ _ _ (by omega), e5, mu_at]
          show _ = bz (bU (gP q) (zVr S o) w)
          unfold bU
          by_cases ew : w = zVr S o
          · rw [if_pos ⟨rfl, ew⟩, if_pos ew]; rfl
          · rw [if_neg (fun y => ew y.2), if_neg ew]; exact w2
        · rw [e11, mu_other _ _ _ (by omega), e8, mu_other _ _ _ (by omega), e5, mu_other _ _ _ (by omega)]; exact w3
        · rw [e11, mu_other _ _ _ (by omega), e8, mu_other _ _ _ (by omega), e5, mu_other _ _ _ (by omega)]; exact w4
      · have z0 : ¬ gFit S q p s (cN a1) := fun y => by
          rw [(hq.1 _ (by omega)).2.1, (fit q).mp y] at h2
          exact h2 rfl
        refine ⟨?_, fun y => absurd y z0, fun _ => rfl⟩
        unfold gItem
        rw [if_neg z0]
        exact hq
  · rcases hx.2 with hv | ⟨o, t, ho, ht, eo⟩
    · have e1 : cN a1 < 100 := by omega
      refine ⟨S, ⟨hY, ⟨_, hv, hx.1⟩, ⟨p, hp0, rfl⟩, ⟨s, hs, rfl⟩, ⟨q0, hq0, hw0⟩⟩, fun r14 I15 J16 hq => ?_⟩
      obtain ⟨rfl, rfl, f2, f3⟩ := hq
      rw [cN_nI (n := p) (by omega), cN_nI (n := s) (by omega)] at f3
      have fit : ∀ q, gFit S q p s (cN a1) ↔ gOk S q p s (cN a1) := fun q => by
        unfold gFit
        rw [if_pos e1]
      have nar : narrow .boolean (.int r14) = .int r14 := by rcases f2 with rfl | rfl <;> rfl
      refine ⟨fun z => ⟨nar, hR _ _ _ ⟨rfl, mF.rf _, f2, fun q hq hw => ?_⟩⟩, fun z => ⟨S, ⟨hY, ⟨_, hv, hx.1⟩, ⟨_, by omega, rfl⟩, ⟨q0, hq0, hw0⟩⟩, fun I21 J22 hc => ⟨nar, ?_⟩⟩⟩
      · have z0 : ¬ gFit S q p s (cN a1) := fun y => by
          rw [(f3 q hq hw).1 ((fit q).mp y)] at z
          exact absurd z (by decide)
        refine ⟨?_, fun y => absurd y z0, fun _ => z⟩
        unfold gItem
        rw [if_neg z0]
        exact hq
      · obtain ⟨rfl, c1, c2⟩ := hc
        refine hR _ _ _ ⟨rfl, c1, f2, fun q hq hw => ?_⟩
        have z0 : gFit S q p s (cN a1) := nn (fun y => z ((f3 q hq hw).2 (fun w => y ((fit q).mpr w))))
        refine ⟨?_, fun y => (f3 q hq hw).1 ((fit q).mp y), fun y => absurd z0 y⟩
        unfold gItem
        rw [if_pos z0, if_pos e1]
        exact c2 q s hq hw (by rw [cN_nI (by omega)])
    · exfalso
      apply h
      rw [hx.1]
      exact nI_le (a := 100) (by omega) (by omega)
set_option maxHeartbeats 4000000 in
set_option maxRecDepth 100000 in
theorem C_M_item (l : Launch) (D : va_G) (ca : Nat → Nat) (ad : Nat → Nat) (S : mI) (I0 : mI) (J0 : mJ) (a1 : Int32) (a2 : Int32) (a3 : Int32)  (hp : pM_item S I0 J0 a1 a2 a3) : Met l yM_item wM_item ({ frames := 2, cells := 0, slots := 0, locals := 48 } : Room) (va_Pc [.ref (ad 0), .int a1, .int a2, .int a3] (mPre D vwCl (xty ca) 23 ad (ymk ca ad) nL I0 J0)) (mQi D vwCl 23 ad (ymk ca ad) (qM_item S I0 J0 a1 a2 a3)) 0 0 (mA 23 ad) := by
  refine Met.ofW (cc := cM_item) (maxL := 6) (ret := (some .boolean)) (by decide) rfl ?_
  intro p e s m args below meth c s₁ B hml hv
  obtain ⟨rfl, hP, hK, hD0, hN⟩ := hv
  have hx := B.exec
  have hb := B.bytes
  have hr := B.returns
  have htb : ∀ w ∈ wb, w.before _ s = true := fun w h => atoms_spec (ws := wM_item) B.pre w (List.mem_cons_of_mem _ h)
  have hown : s.vm.findClass RM = some m.cls := findClass_of_methodNamed B.named
  have hlk := B.notSynchronized
  have hD := mw_Dm hD0
  have hS : va_S (mA 23 ad) s.heap s.heap [] := va_S.rf
  have hl := lv_entry ([.ref (ad 0), .int a1, .int a2, .int a3]) (n := 6) (Nat.le_of_ble_eq_true rfl)
  rw [lg_entry_eq]
  generalize (lg_sl ([.ref (ad 0), .int a1, .int a2, .int a3]) ++ List.replicate (6 - (lg_sl ([.ref (ad 0), .int a1, .int a2, .int a3])).length) Slot.unset).toArray = ls at hl ⊢
  have hl : lv_has ls 6 [(0, .ref (ad 0)), (1, .int a1), (2, .int a2), (3, .int a3)] := hl
  have h := P_M_item S I0 J0 a1 a2 a3  hp  (qM_item S I0 J0 a1 a2 a3)  (fun _ _ _ h => h)
  unfold wp_M_item at h
  refine lv_iload_n hx hb dM_item_0 rfl (lv_at hl 3 rfl) ?_
  refine lv_aload_n hx hb dM_item_1 rfl (lv_at hl 0 rfl) ?_
  refine va_get (D := D) (ci := 6) (v := .int (I0 0 0)) (C := RM) (T := TM) (N := 33) hx hb htb inM hown hK hP 0 (mw_at (by decide) (ym_0 _ _ _ _)) rfl 0 (by decide) (htb _ k2_172) (fun _ h9 => h9) rfl dM_item_2 ?_
  obtain ⟨hz1, h⟩ := h
  refine lv_irem hx hb dM_item_5 hz1 ?_
  refine lv_istore (lv' := [(4, .int (a3 - a3 / (I0 0 0) * (I0 0 0))), (0, .ref (ad 0)), (1, .int a1), (2, .int a2), (3, .int a3)]) hx hb dM_item_6 hl (by decide) rfl (fun ls hl => ?_)
  refine lv_iload_n hx hb dM_item_8 rfl (lv_at hl 2 rfl) ?_
  refine lv_bipush (v := 100) hx hb dM_item_9 (by decide) ?_
  refine lv_icmp_ge (tgt := 38) hx hb dM_item_11 (by decide) (fun hc => ?_) (fun hc => ?_)
  · have h := h.1 hc
    refine lv_aload_n hx hb dM_item_38 rfl (lv_at hl 1 rfl) ?_
    refine va_get (D := D) (ci := 6) (v := .ref (ad 7)) (C := RM) (T := TM) (N := 33) hx hb htb inM hown hK hP 0 (mw_at (by decide) (ym_0 _ _ _ _)) rfl 12 (by decide) (htb _ k2_184) (fun _ h9 => h9) rfl dM_item_39 ?_
    refine lv_iload_n hx hb dM_item_42 rfl (lv_at hl 2 rfl) ?_
    refine lv_bipush (v := 100) hx hb dM_item_43 (by decide) ?_
    refine lv_irem hx hb dM_item_45 (by decide) ?_
    obtain ⟨hn2, h⟩ := h
    refine mr_iald hx hb hK hP 7 0 (by decide) rfl rfl hn2 dM_item_46 ?_
    refine lv_istore (lv' := [(5, .int (I0 7 (a1 - a1 / 100 * 100).toNatClampNeg)), (4, .int (a3 - a3 / (I0 0 0) * (I0 0 0))), (0, .ref (ad 0)), (1, .int a1), (2, .int a2), (3, .int a3)]) hx hb dM_item_47 hl (by decide) rfl (fun ls hl => ?_)
    refine lv_aload_n hx hb dM_item_49 rfl (lv_at hl 2 rfl) ?_
    refine va_get (D := D) (ci := 6) (v := .ref (ad 19)) (C := RM) (T := TM) (N := 33) hx hb htb inM hown hK hP 0 (mw_at (by decide) (ym_0 _ _ _ _)) rfl 25 (by decide) (htb _ k2_197) (fun _ h9 => h9) rfl dM_item_50 ?_
    refine lv_iload hx hb dM_item_53 (lv_at hl 0 rfl) ?_
    obtain ⟨hn3, h⟩ := h
    refine mr_zald hx hb hK hP 19 1 (by decide) rfl rfl hn3 dM_item_55 ?_
    refine lv_if_eq (tgt := 61) hx hb dM_item_56 (by decide) (fun hc => ?_) (fun hc => ?_)
    · have h := h.1 hc
      refine lv_aload_n hx hb dM_item_61 rfl (lv_at hl 2 rfl) ?_
      refine va_get (D := D) (ci := 6) (v := .ref (ad 19)) (C := RM) (T := TM) (N := 33) hx hb htb inM hown hK hP 0 (mw_at (by decide) (ym_0 _ _ _ _)) rfl 25 (by decide) (htb _ k2_197) (fun _ h9 => h9) rfl dM_item_62 ?_
      refine lv_iload hx hb dM_item_65 (lv_at hl 0 rfl) ?_
      refine lv_iconst (v := 1) hx hb dM_item_67 (by decide) ?_
      obtain ⟨hn4, h⟩ := h
      refine mr_zast hx hb hK hP hD hS 19 1 (by decide) (fun _ => rfl) rfl hn4 dM_item_68 (fun H locs hP hS => ?_)
      generalize heI5 : mu I0 19 (I0 7 (a1 - a1 / 100 * 100).toNatClampNeg).toNatClampNeg (vp_nar .boolean 1) = I5 at hP
      have h := h I5 heI5.symm
      refine lv_aload_n hx hb dM_item_69 rfl (lv_at hl 2 rfl) ?_
      refine va_get (D := D) (ci := 6) (v := .ref (ad 18)) (C := RM) (T := TM) (N := 33) hx hb htb inM hown hK hP 0 (mw_at (by decide) (ym_0 _ _ _ _)) rfl 24 (by decide) (htb _ k2_196) (fun _ h9 => h9) rfl dM_item_70 ?_
      refine lv_iload hx hb dM_item_73 (lv_at hl 0 rfl) ?_
      refine lv_dup2_11 hx hb dM_item_75 rfl rfl ?_
      obtain ⟨hn6, h⟩ := h
      refine mr_iald hx hb hK hP 18 0 (by decide) rfl rfl hn6 dM_item_76 ?_
      refine lv_iconst (v := 2) hx hb dM_item_77 (by decide) ?_
      refine lv_idiv hx hb dM_item_78 (by decide) ?_
      obtain ⟨hn7, h⟩ := h
      refine mr_iast hx hb hK hP hD hS 18 0 (by decide) (fun _ => rfl) rfl hn7 dM_item_79 (fun H locs hP hS => ?_)
      generalize heI8 : mu I5 18 (I0 7 (a1 - a1 / 100 * 100).toNatClampNeg).toNatClampNeg ((I5 18 (I0 7 (a1 - a1 / 100 * 100).toNatClampNeg).toNatClampNeg) / 2) = I8 at hP
      have h := h I8 heI8.symm
      refine lv_aload_n hx hb dM_item_80 rfl (lv_at hl 2 rfl) ?_
      refine va_get (D := D) (ci := 6) (v := .ref (ad 18)) (C := RM) (T := TM) (N := 33) hx hb htb inM hown hK hP 0 (mw_at (by decide) (ym_0 _ _ _ _)) rfl 24 (by decide) (htb _ k2_196) (fun _ h9 => h9) rfl dM_item_81 ?_
      refine lv_iload hx hb dM_item_84 (lv_at hl 1 rfl) ?_
      refine lv_dup2_11 hx hb dM_item_86 rfl rfl ?_
      obtain ⟨hn9, h⟩ := h
      refine mr_iald hx hb hK hP 18 0 (by decide) rfl rfl hn9 dM_item_87 ?_
      refine lv_iconst (v := 5) hx hb dM_item_88 (by decide) ?_
      refine lv_iadd hx hb dM_item_89 ?_
      obtain ⟨hn10, h⟩ := h
      refine mr_iast hx hb hK hP hD hS 18 0 (by decide) (fun _ => rfl) rfl hn10 dM_item_90 (fun H locs hP hS => ?_)
      generalize heI11 : mu I8 18 (a3 - a3 / (I0 0 0) * (I0 0 0)).toNatClampNeg ((I8 18 (a3 - a3 / (I0 0 0) * (I0 0 0)).toNatClampNeg) + 5) = I11 at hP
      have h := h I11 heI11.symm
      refine lv_iconst (v := 1) hx hb dM_item_91 (by decide) ?_
      exact me_z hx hb hr hlk hP hS rfl h dM_item_92
    · have h := h.2 hc
      refine lv_iconst (v := 0) hx hb dM_item_59 (by decide) ?_
      exact me_z hx hb hr hlk hP hS rfl h dM_item_60
  · have h := h.2 hc
    refine lv_aload_n hx hb dM_item_14 rfl (lv_at hl 1 rfl) ?_
    refine lv_iload_n hx hb dM_item_15 rfl (lv_at hl 2 rfl) ?_
    refine lv_iload_n hx hb dM_item_16 rfl (lv_at hl 3 rfl) ?_
    refine lv_iload_n hx hb dM_item_17 rfl (lv_at hl 4 rfl) ?_
    obtain ⟨S12, h⟩ := h
    obtain ⟨hp13, h⟩ := h
    refine mc_i (va_runV (As := [.int a1, .int a2, .int a3]) (rest := []) ⟨hx, hb, hml, hown, htb⟩ (C_M_votable l D ca ad S12 I0 J0 a1 a2 a3 hp13) (cwV 3 htb (gd_v k3_67 k3_69 ks26 k1_8 k3_70) rfl rfl rfl (by decide +kernel) ⟨Nat.le_of_ble_eq_true rfl, Nat.le_of_ble_eq_true rfl⟩) (mPre_V hK hP hD hN rfl (mw_at (by decide) (ym_0 _ _ _ _))) rfl rfl hl.1 rfl (lv_room (Nat.le_of_ble_eq_true rfl)) dM_item_18 ⟨Nat.le_of_ble_eq_true rfl, Nat.le_of_ble_eq_true rfl⟩) hS (fun r14 I15 J16 H locs hpost hP hS => ?_)
    have h := h r14 I15 J16 hpost
    refine lv_istore (lv' := [(5, .int r14), (4, .int (a3 - a3 / (I0 0 0) * (I0 0 0))), (0, .ref (ad 0)), (1, .int a1), (2, .int a2), (3, .int a3)]) hx hb dM_item_21 hl (by decide) rfl (fun ls hl => ?_)
    refine lv_iload hx hb dM_item_23 (lv_at hl 0 rfl) ?_
    refine lv_if_eq (tgt := 35) hx hb dM_item_25 (by decide) (fun hc => ?_) (fun hc => ?_)
    · have h := h.1 hc
      refine lv_iload hx hb dM_item_35 (lv_at hl 0 rfl) ?_
      obtain ⟨hq17, h⟩ := h
      exact me_z hx hb hr hlk hP hS hq17 h dM_item_37
    · have h := h.2 hc
      refine lv_aload_n hx hb dM_item_28 rfl (lv_at hl 2 rfl) ?_
      refine lv_iload_n hx hb dM_item_29 rfl (lv_at hl 3 rfl) ?_
      refine lv_iload hx hb dM_item_30 (lv_at hl 1 rfl) ?_
      obtain ⟨S18, h⟩ := h
      obtain ⟨hp19, h⟩ := h
      refine mc_v (va_runV (As := [.int a1, .int (a3 - a3 / (I0 0 0) * (I0 0 0))]) (rest := []) ⟨hx, hb, hml, hown, htb⟩ (C_M_count l D ca ad S18 I15 J16 a1 (a3 - a3 / (I0 0 0) * (I0 0 0)) hp19) (cwV 2 htb (gd_v k3_75 k3_77 ks28 k1_8 k3_78) rfl rfl rfl (by decide +kernel) ⟨Nat.le_of_ble_eq_true rfl, Nat.le_of_ble_eq_true rfl⟩) (mPre_V hK hP hD hN rfl (mw_at (by decide) (ym_0 _ _ _ _))) rfl rfl hl.1 rfl (lv_room (Nat.le_of_ble_eq_true rfl)) dM_item_32 ⟨Nat.le_of_ble_eq_true rfl, Nat.le_of_ble_eq_true rfl⟩) hS (fun I21 J22 H locs hpost hP hS => ?_)
      have h := h I21 J22 hpost
      refine lv_iload hx hb dM_item_35 (lv_at hl 0 rfl) ?_
      obtain ⟨hq23, h⟩ := h
      exact me_z hx hb hr hlk hP hS hq23 h dM_item_37
def wp_M_make_4 (K4 : mI → mJ → Int32 → Int32 → Prop) (K36 : mI → mJ → Int32 → Prop) (K62 : mI → mJ → Int32 → Int32 → Int32 → Prop) (R : mI → mJ → Prop) (I : mI) (J : mJ) (a1 : Int32) (x2 : Int32) (x3 : Int32) : Prop :=
  ((x3 ≤ 0 → (∀ (I3 : mI) (J4 : mJ), qM_origin I J I3 J4 → K36 I3 J4 (x2 - 1))) ∧ (¬ (x3 ≤ 0) → (vp_in x2 60 ∧ (∀ (I6 : mI), I6 = mu I 22 x2.toNatClampNeg x3 → (vp_in x3 60 ∧ K4 I6 J (x2 + 1) (I6 2 x3.toNatClampNeg))))))
def wp_M_make_36 (K4 : mI → mJ → Int32 → Int32 → Prop) (K36 : mI → mJ → Int32 → Prop) (K62 : mI → mJ → Int32 → Int32 → Int32 → Prop) (R : mI → mJ → Prop) (I : mI) (J : mJ) (a1 : Int32) (x3 : Int32) : Prop :=
  ((x3 < 0 → R I J) ∧ (¬ (x3 < 0) → (vp_in x3 60 ∧ (vp_in (I 22 x3.toNatClampNeg) 60 ∧ (∃ (S10 : mI), (pM_advance S10 I J (I 3 (I 22 x3.toNatClampNeg).toNatClampNeg) ∧ (∀ (I13 : mI) (J14 : mJ), qM_advance S10 I J (I 3 (I 22 x3.toNatClampNeg).toNatClampNeg) I13 J14 → K62 I13 J14 x3 (I 22 x3.toNatClampNeg) 0)))))))
def wp_M_make_62 (K4 : mI → mJ → Int32 → Int32 → Prop) (K36 : mI → mJ → Int32 → Prop) (K62 : mI → mJ → Int32 → Int32 → Int32 → Prop) (R : mI → mJ → Prop) (I : mI) (J : mJ) (a1 : Int32) (x3 : Int32) (x4 : Int32) (x5 : Int32) : Prop :=
  (vp_in x4 60 ∧ (((I 4 x4.toNatClampNeg) ≤ x5 → K36 I J (x3 + (-1))) ∧ (¬ ((I 4 x4.toNatClampNeg) ≤ x5) → (vp_in ((4 * x4) + x5) 240 ∧ (vp_in x4 60 ∧ (vp_in x4 60 ∧ (∃ (S19 : mI), (pM_item S19 I J (I 5 ((4 * x4) + x5).toNatClampNeg) (I 2 x4.toNatClampNeg) (I 3 x4.toNatClampNeg) ∧ (∀ (r21 : Int32) (I22 : mI) (J23 : mJ), qM_item S19 I J (I 5 ((4 * x4) + x5).toNatClampNeg) (I 2 x4.toNatClampNeg) (I 3 x4.toNatClampNeg) r21 I22 J23 → K62 I22 J23 x3 x4 (x5 + 1))))))))))
def wp_M_make (K4 : mI → mJ → Int32 → Int32 → Prop) (K36 : mI → mJ → Int32 → Prop) (K62 : mI → mJ → Int32 → Int32 → Int32 → Prop) (R : mI → mJ → Prop) (I0 : mI) (J0 : mJ) (a1 : Int32) : Prop :=
  K4 I0 J0 0 a1
theorem P_M_make (S : mI) (I0 : mI) (J0 : mJ) (a1 : Int32)  (hp : pM_make S I0 J0 a1) (K4 : mI → mJ → Int32 → Int32 → Prop) (K36 : mI → mJ → Int32 → Prop) (K62 : mI → mJ → Int32 → Int32 → Int32 → Prop) (R : mI → mJ → Prop) (c4 : ∀ (I : mI) (J : mJ) (x2 : Int32) (x3 : Int32), wp_M_make_4 K4 K36 K62 R I J a1 x2 x3 → K4 I J x2 x3) (c36 : ∀ (I : mI) (J : mJ) (x3 : Int32), wp_M_make_36 K4 K36 K62 R I J a1 x3 → K36 I J x3) (c62 : ∀ (I : mI) (J : mJ) (x3 : Int32) (x4 : Int32) (x5 : Int32), wp_M_make_62 K4 K36 K62 R I J a1 x3 x4 x5 → K62 I J x3 x4 x5) (hR : ∀ (I' : mI) (J' : mJ), qM_make S I0 J0 a1 I' J' → R I' J') : wp_M_make K4 K36 K62 R I0 J0 a1 := by
  obtain ⟨hY, ⟨b, hb0, rfl⟩⟩ := hp
  have hb := hY.1.b
  unfold qM_make at hR
  rw [cN_nI (n := b) (by omega)] at hR
  have par : ∀ x, 0 < x → x < zBc S → S 2 x = nI (zPar S x) ∧ zPar S x < x := fun x h1 h2 => ⟨((hY.1.2.1 x h2).2.2.2.2.2.1 h1).1, ((hY.1.2.1 x h2).2.2.2.2.2.1 h1).2.1⟩
  have back : ∀ k I, k ≤ 60 → mG I0 I → (∀ t, t < k → I 22 t = nI (zup S b t) ∧ 0 < zup S b t ∧ zup S b t < zBc S) → mE (gS S (zup S b k)) I → K36 I J0 (nI k - 1) := by
    intro k
    induction k with
    | zero =>
      intro I _ hg hc hm
      apply c36
      unfold wp_M_make_36
      exact ⟨fun _ => hR _ _ ⟨rfl, hg, hm⟩, fun h => absurd (by decide) h⟩
    | succ k ih =>
      intro I hk hg hc hm
      have hYI := hY.g hg
      obtain ⟨c1, c2, c3⟩ := hc k (by omega)
      have hsl := hY.1.sl c3
      have hB := hY.1.2.1 _ c3
      have hpar := par _ c2 c3
      have hpb : zPar S (zup S b k) < zBc S := by omega
      have hGp := hY.1.g hpb
      have hm : mE (gS S (zPar S (zup S b k))) I := hm
      apply c36
      unfold wp_M_make_36
      rw [nI_pred, show (nI k).toNatClampNeg = k from nI_clamp (by omega), c1, show (nI (zup S b k)).toNatClampNeg = zup S b k from nI_clamp (by omega), hYI.r (j := 3) (by omega) (by omega), hB.1]
      refine ⟨fun h => absurd h (nI_pos (by omega)), fun _ => ⟨vp_in_nI (by omega) (by omega), vp_in_nI (by omega) (by omega), S, ⟨hYI, ⟨_, hsl, rfl⟩, ⟨_, hm, hGp⟩⟩, fun I13 J14 hq => ?_⟩⟩
      obtain ⟨rfl, f13, m13⟩ := hq
      have m13 := m13 _ hm hGp
      rw [cN_nI (by omega)] at m13
      have hle : gE (gS S (zPar S (zup S b k))) ≤ zSl S (zup S b k) / zLn S := by
        rw [hY.1.ge hpb]
        exact Nat.div_le_div_right (Nat.le_of_lt (hB.2.2.2.2.2.1 c2).2.2)
      have hG0 : gW (zNv S) (zBc S) (gTo (zNv S) (gS S (zPar S (zup S b k))) (zSl S (zup S b k) / zLn S)) := gTo_W hGp hle (Nat.le_trans (Nat.div_le_self _ _) hsl)
      have items : ∀ m j I', j + m = zIc S (zup S b k) → mF I I' → mE (gFold S (zPar S (zup S b k)) (zSl S (zup S b k)) (zIt S (zup S b k)) j (gTo (zNv S) (gS S (zPar S (zup S b k))) (zSl S (zup S b k) / zLn S))) I' → K62 I' J14 (nI k) (nI (zup S b k)) (nI j) := by
        intro m
        induction m with
        | zero =>
          intro j I' hj fI hmI
          have hj : j = zIc S (zup S b k) := by omega
          have hYI2 := hYI.g fI.1
          apply c62
          unfold wp_M_make_62
          rw [show (nI (zup S b k)).toNatClampNeg = zup S b k from nI_clamp (by omega), hYI2.r (j := 4) (by omega) (by omega), hB.2.2.1]
          refine ⟨vp_in_nI (by omega) (by omega), fun _ => ?_, fun h => absurd (nI_le (by omega) (by omega)) h⟩
          rw [show nI k + (-1) = nI k - 1 from (Int32.sub_eq_add_neg (nI k) 1).symm]
          refine ih I' (by omega) (hg.tr fI.1) (fun t ht => ?_) ?_
          · rw [fI.2]
            exact hc t (by omega)
          · rw [gS_eq hY.1.up c3 c2, ← hj]
            exact hmI
        | succ m ihm =>
          intro j I' hj fI hmI
          have hYI2 := hYI.g fI.1
          have hi4 := hB.2.2.2.1
          have eidx : (4 * nI (zup S b k) + nI j).toNatClampNeg = 4 * zup S b k + j := by
            rw [show (4 : Int32) = nI 4 from rfl, pk_mul, nI_add]
            exact nI_clamp (by omega)
          have ein : vp_in (4 * nI (zup S b k) + nI j) 240 := by
            rw [show (4 : Int32) = nI 4 from rfl, pk_mul, nI_add]
            exact vp_in_nI (by omega) (by omega)
          have hW := gFold_W hY.1.2.2.2.1 (zPar S (zup S b k)) (zSl S (zup S b k)) (zIt S (zup S b k)) hG0 j (fun i hi => (hY.1.items _ c3).2 i (by omega))
          apply c62
          unfold wp_M_make_62
          rw [eidx, show (nI (zup S b k)).toNatClampNeg = zup S b k from nI_clamp (by omega), hYI2.r (j := 4) (by omega) (by omega), hYI2.r (j := 5) (by omega) (by omega), hYI2.r (j := 2) (by omega) (by omega), hYI2.r (j := 3) (by omega) (by omega), hB.2.2.1, hB.1, hpar.1, nI_1]
          refine ⟨vp_in_nI (by omega) (by omega), fun h => absurd h (nI_ge (by omega) (by omega)), fun _ => ⟨ein, vp_in_nI (by omega) (by omega), vp_in_nI (by omega) (by omega), S, ⟨hYI2, hB.2.2.2.2.2.2 j (by omega), ⟨_, hpb, rfl⟩, ⟨_, hsl, rfl⟩, ⟨_, hmI, hW.1⟩⟩, fun r21 I22 J23 hq => ?_⟩⟩
          obtain ⟨rfl, f22, -, m22⟩ := hq
          refine ihm (j + 1) I22 (by omega) (fI.tr f22) ?_
          have := (m22 _ hmI hW.1).1
          rw [cN_nI (n := zPar S (zup S b k)) (by omega), cN_nI (n := zSl S (zup S b k)) (by omega)] at this
          exact this
      exact items (zIc S (zup S b k)) 0 I13 (by omega) f13 m13
  have fwd : ∀ m j I, zup S b j ≤ m → zup S b j + j ≤ b → mG I0 I → (∀ t, t < j → I 22 t = nI (zup S b t) ∧ 0 < zup S b t ∧ zup S b t < zBc S) → K4 I J0 (nI j) (nI (zup S b j)) := by
    intro m
    induction m with
    | zero =>
      intro j I hm hj hg hc
      have hz : zup S b j = 0 := by omega
      apply c4
      unfold wp_M_make_4
      rw [hz]
      refine ⟨fun _ I3 J4 hq => ?_, fun h => absurd (by decide) h⟩
      obtain ⟨rfl, f3, m3⟩ := hq
      refine back j I3 (by omega) (hg.tr f3.1) (fun t ht => ?_) ?_
      · rw [f3.2]; exact hc t ht
      · rw [hz, gS_0]; exact m3
    | succ m ih =>
      intro j I hm hj hg hc
      have hYI := hY.g hg
      apply c4
      unfold wp_M_make_4
      by_cases hz : zup S b j = 0
      · rw [hz]
        refine ⟨fun _ I3 J4 hq => ?_, fun h => absurd (by decide) h⟩
        obtain ⟨rfl, f3, m3⟩ := hq
        refine back j I3 (by omega) (hg.tr f3.1) (fun t ht => ?_) ?_
        · rw [f3.2]; exact hc t ht
        · rw [hz, gS_0]; exact m3
      · have hc3 : zup S b j < zBc S := by omega
        have hpar := par _ (show 0 < zup S b j by omega) hc3
        rw [show (nI j).toNatClampNeg = j from nI_clamp (by omega), show (nI (zup S b j)).toNatClampNeg = zup S b j from nI_clamp (by omega), nI_1]
        refine ⟨fun h => absurd h (nI_nle (by omega) (by omega)), fun _ => ⟨vp_in_nI (by omega) (by omega), fun I6 e6 => ⟨vp_in_nI (by omega) (by omega), ?_⟩⟩⟩
        have r2 : I6 2 (zup S b j) = nI (zup S b (j + 1)) := by
          rw [e6, mu_other _ _ _ (by omega), hYI.r (j := 2) (by omega) (by omega)]
          exact hpar.1
        rw [r2]
        have hs : zup S b (j + 1) = zPar S (zup S b j) := rfl
        refine ih (j + 1) I6 (by omega) (by omega) ?_ (fun t ht => ?_)
        · rw [e6]; exact hg.tr (mG_mu (Or.inl (by omega)))
        · rw [e6, mu_at]
          by_cases et : t = j
          · subst et
            rw [if_pos ⟨rfl, rfl⟩]
            exact ⟨rfl, by omega, hc3⟩
          · rw [if_neg (fun y => et y.2)]
            exact hc t (by omega)
  exact fwd b 0 I0 (Nat.le_refl _) (Nat.le_refl _) (mG.rf I0) (fun t ht => by omega)
set_option maxHeartbeats 4000000 in
set_option maxRecDepth 100000 in
theorem C_M_make (l : Launch) (D : va_G) (ca : Nat → Nat) (ad : Nat → Nat) (S : mI) (I0 : mI) (J0 : mJ) (a1 : Int32)  (hp : pM_make S I0 J0 a1) : Met l yM_make wM_make ({ frames := 3, cells := 0, slots := 0, locals := 73 } : Room) (va_Pc [.ref (ad 0), .int a1] (mPre D vwCl (xty ca) 23 ad (ymk ca ad) nL I0 J0)) (mQv D vwCl 23 ad (ymk ca ad) (qM_make S I0 J0 a1)) 0 0 (mA 23 ad) := by
  refine Met.ofW (cc := cM_make) (maxL := 6) (ret := none) (by decide) rfl ?_
  intro p e s m args below meth c s₁ B hml hv
  obtain ⟨rfl, hP, hK, hD0, hN⟩ := hv
  have hx := B.exec
  have hb := B.bytes
  have hr := B.returns
  have htb : ∀ w ∈ wb, w.before _ s = true := fun w h => atoms_spec (ws := wM_make) B.pre w (List.mem_cons_of_mem _ h)
  have hown : s.vm.findClass RM = some m.cls := findClass_of_methodNamed B.named
  have hlk := B.notSynchronized
  have hD := mw_Dm hD0
  have hS : va_S (mA 23 ad) s.heap s.heap [] := va_S.rf
  have hl := lv_entry ([.ref (ad 0), .int a1]) (n := 6) (Nat.le_of_ble_eq_true rfl)
  rw [lg_entry_eq]
  generalize (lg_sl ([.ref (ad 0), .int a1]) ++ List.replicate (6 - (lg_sl ([.ref (ad 0), .int a1])).length) Slot.unset).toArray = ls at hl ⊢
  have hl : lv_has ls 6 [(0, .ref (ad 0)), (1, .int a1)] := hl
  obtain ⟨K4, hK4⟩ : ∃ K : mI → mJ → Int32 → Int32 → Prop, K = (fun I J x2 x3 => ∀ (H : Heap) (locs : List Loc) (ls : Array Slot), va_P D vwCl (mw 23 ad (ymk ca ad) I J) H → va_S (mA 23 ad) s.heap H locs → lv_has ls 6 [(0, .ref (ad 0)), (2, .int x2), (3, .int x3)] → W p l e (headSpec wM_make ({ frames := 3, cells := 0, slots := 0, locals := 73 } : Room)).room s m (([.ref (ad 0), .int a1] : List Value).toArray) below meth c H locs 0 0 (MQ below (mQv D vwCl 23 ad (ymk ca ad) (qM_make S I0 J0 a1)) (([.ref (ad 0), .int a1] : List Value).toArray) s 0 0 (mA 23 ad)) (F0 m 4 ls [])) := ⟨_, rfl⟩
  obtain ⟨K36, hK36⟩ : ∃ K : mI → mJ → Int32 → Prop, K = (fun I J x3 => ∀ (H : Heap) (locs : List Loc) (ls : Array Slot), va_P D vwCl (mw 23 ad (ymk ca ad) I J) H → va_S (mA 23 ad) s.heap H locs → lv_has ls 6 [(0, .ref (ad 0)), (3, .int x3)] → W p l e (headSpec wM_make ({ frames := 3, cells := 0, slots := 0, locals := 73 } : Room)).room s m (([.ref (ad 0), .int a1] : List Value).toArray) below meth c H locs 0 0 (MQ below (mQv D vwCl 23 ad (ymk ca ad) (qM_make S I0 J0 a1)) (([.ref (ad 0), .int a1] : List Value).toArray) s 0 0 (mA 23 ad)) (F0 m 36 ls [])) := ⟨_, rfl⟩
  obtain ⟨K62, hK62⟩ : ∃ K : mI → mJ → Int32 → Int32 → Int32 → Prop, K = (fun I J x3 x4 x5 => ∀ (H : Heap) (locs : List Loc) (ls : Array Slot), va_P D vwCl (mw 23 ad (ymk ca ad) I J) H → va_S (mA 23 ad) s.heap H locs → lv_has ls 6 [(0, .ref (ad 0)), (3, .int x3), (4, .int x4), (5, .int x5)] → W p l e (headSpec wM_make ({ frames := 3, cells := 0, slots := 0, locals := 73 } : Room)).room s m (([.ref (ad 0), .int a1] : List Value).toArray) below meth c H locs 0 0 (MQ below (mQv D vwCl 23 ad (ymk ca ad) (qM_make S I0 J0 a1)) (([.ref (ad 0), .int a1] : List Value).toArray) s 0 0 (mA 23 ad)) (F0 m 62 ls [])) := ⟨_, rfl⟩
  have c4 : ∀ (I : mI) (J : mJ) (x2 : Int32) (x3 : Int32), wp_M_make_4 K4 K36 K62 (qM_make S I0 J0 a1) I J a1 x2 x3 → K4 I J x2 x3 := by
    intro I J x2 x3 h
    rw [hK4]
    intro H locs ls hP hS hl
    unfold wp_M_make_4 at h
    refine lv_iload_n hx hb dM_make_4 rfl (lv_at hl 2 rfl) ?_
    refine lv_if_le (tgt := 28) hx hb dM_make_5 (by decide) (fun hc => ?_) (fun hc => ?_)
    · have h := h.1 hc
      refine lv_aload_n hx hb dM_make_28 rfl (lv_at hl 0 rfl) ?_
      refine mc_v (va_runV (As := []) (rest := []) ⟨hx, hb, hml, hown, htb⟩ (C_M_origin l D ca ad I J) (cwV 0 htb (gd_v k3_51 k3_53 ks22 k1_8 k3_54) rfl rfl rfl (by decide +kernel) ⟨Nat.le_of_ble_eq_true rfl, Nat.le_of_ble_eq_true rfl⟩) (mPre_V hK hP hD hN rfl (mw_at (by decide) (ym_0 _ _ _ _))) rfl rfl hl.1 rfl (lv_room (Nat.le_of_ble_eq_true rfl)) dM_make_29 ⟨Nat.le_of_ble_eq_true rfl, Nat.le_of_ble_eq_true rfl⟩) hS (fun I3 J4 H locs hpost hP hS => ?_)
      have h := h I3 J4 hpost
      refine lv_iload_n hx hb dM_make_32 rfl (lv_at hl 1 rfl) ?_
      refine lv_iconst (v := 1) hx hb dM_make_33 (by decide) ?_
      refine lv_isub hx hb dM_make_34 ?_
      refine lv_istore_n (lv' := [(3, .int (x2 - 1)), (0, .ref (ad 0)), (2, .int x2)]) hx hb dM_make_35 rfl hl (by decide) rfl (fun ls hl => ?_)
      rw [hK36] at h
      exact h _ _ _ hP hS (lv_sub hl [1, 0] rfl)
    · have h := h.2 hc
      refine lv_aload_n hx hb dM_make_8 rfl (lv_at hl 0 rfl) ?_
      refine va_get (D := D) (ci := 6) (v := .ref (ad 22)) (C := RM) (T := TM) (N := 33) hx hb htb inM hown hK hP 0 (mw_at (by decide) (ym_0 _ _ _ _)) rfl 32 (by decide) (htb _ k2_204) (fun _ h9 => h9) rfl dM_make_9 ?_
      refine lv_iload_n hx hb dM_make_12 rfl (lv_at hl 1 rfl) ?_
      refine lv_iload_n hx hb dM_make_13 rfl (lv_at hl 2 rfl) ?_
      obtain ⟨hn5, h⟩ := h
      refine mr_iast hx hb hK hP hD hS 22 0 (by decide) (fun _ => rfl) rfl hn5 dM_make_14 (fun H locs hP hS => ?_)
      generalize heI6 : mu I 22 x2.toNatClampNeg x3 = I6 at hP
      have h := h I6 heI6.symm
      refine lv_iinc (k := 1) (v := x2 + 1) (lv' := [(2, .int (x2 + 1)), (0, .ref (ad 0)), (3, .int x3)]) hx hb dM_make_15 hl rfl (by rfl) (by decide) rfl (fun ls hl => ?_)
      refine lv_aload_n hx hb dM_make_18 rfl (lv_at hl 1 rfl) ?_
      refine va_get (D := D) (ci := 6) (v := .ref (ad 2)) (C := RM) (T := TM) (N := 33) hx hb htb inM hown hK hP 0 (mw_at (by decide) (ym_0 _ _ _ _)) rfl 5 (by decide) (htb _ k2_177) (fun _ h9 => h9) rfl dM_make_19 ?_
      refine lv_iload_n hx hb dM_make_22 rfl (lv_at hl 2 rfl) ?_
      obtain ⟨hn7, h⟩ := h
      refine mr_iald hx hb hK hP 2 0 (by decide) rfl rfl hn7 dM_make_23 ?_
      refine lv_istore_n (lv' := [(3, .int (I6 2 x3.toNatClampNeg)), (2, .int (x2 + 1)), (0, .ref (ad 0))]) hx hb dM_make_24 rfl hl (by decide) rfl (fun ls hl => ?_)
      refine lv_goto (tgt := 4) hx hb dM_make_25 (by decide) ?_
      rw [hK4] at h
      exact h _ _ _ hP hS (lv_sub hl [2, 1, 0] rfl)
  have c36 : ∀ (I : mI) (J : mJ) (x3 : Int32), wp_M_make_36 K4 K36 K62 (qM_make S I0 J0 a1) I J a1 x3 → K36 I J x3 := by
    intro I J x3 h
    rw [hK36]
    intro H locs ls hP hS hl
    unfold wp_M_make_36 at h
    refine lv_iload_n hx hb dM_make_36 rfl (lv_at hl 1 rfl) ?_
    refine lv_if_lt (tgt := 117) hx hb dM_make_37 (by decide) (fun hc => ?_) (fun hc => ?_)
    · have h := h.1 hc
      exact me_v hx hb hr hlk hP hS h dM_make_117
    · have h := h.2 hc
      refine lv_aload_n hx hb dM_make_40 rfl (lv_at hl 0 rfl) ?_
      refine va_get (D := D) (ci := 6) (v := .ref (ad 22)) (C := RM) (T := TM) (N := 33) hx hb htb inM hown hK hP 0 (mw_at (by decide) (ym_0 _ _ _ _)) rfl 32 (by decide) (htb _ k2_204) (fun _ h9 => h9) rfl dM_make_41 ?_
      refine lv_iload_n hx hb dM_make_44 rfl (lv_at hl 1 rfl) ?_
      obtain ⟨hn8, h⟩ := h
      refine mr_iald hx hb hK hP 22 0 (by decide) rfl rfl hn8 dM_make_45 ?_
      refine lv_istore (lv' := [(4, .int (I 22 x3.toNatClampNeg)), (0, .ref (ad 0)), (3, .int x3)]) hx hb dM_make_46 hl (by decide) rfl (fun ls hl => ?_)
      refine lv_aload_n hx hb dM_make_48 rfl (lv_at hl 1 rfl) ?_
      refine lv_aload_n hx hb dM_make_49 rfl (lv_at hl 1 rfl) ?_
      refine va_get (D := D) (ci := 6) (v := .ref (ad 3)) (C := RM) (T := TM) (N := 33) hx hb htb inM hown hK hP 0 (mw_at (by decide) (ym_0 _ _ _ _)) rfl 6 (by decide) (htb _ k2_178) (fun _ h9 => h9) rfl dM_make_50 ?_
      refine lv_iload hx hb dM_make_53 (lv_at hl 0 rfl) ?_
      obtain ⟨hn9, h⟩ := h
      refine mr_iald hx hb hK hP 3 0 (by decide) rfl rfl hn9 dM_make_55 ?_
      obtain ⟨S10, h⟩ := h
      obtain ⟨hp11, h⟩ := h
      refine mc_v (va_runV (As := [.int (I 3 (I 22 x3.toNatClampNeg).toNatClampNeg)]) (rest := []) ⟨hx, hb, hml, hown, htb⟩ (C_M_advance l D ca ad S10 I J (I 3 (I 22 x3.toNatClampNeg).toNatClampNeg) hp11) (cwV 1 htb (gd_v k3_59 k3_61 ks24 k1_8 k3_62) rfl rfl rfl (by decide +kernel) ⟨Nat.le_of_ble_eq_true rfl, Nat.le_of_ble_eq_true rfl⟩) (mPre_V hK hP hD hN rfl (mw_at (by decide) (ym_0 _ _ _ _))) rfl rfl hl.1 rfl (lv_room (Nat.le_of_ble_eq_true rfl)) dM_make_56 ⟨Nat.le_of_ble_eq_true rfl, Nat.le_of_ble_eq_true rfl⟩) hS (fun I13 J14 H locs hpost hP hS => ?_)
      have h := h I13 J14 hpost
      refine lv_iconst (v := 0) hx hb dM_make_59 (by decide) ?_
      refine lv_istore (lv' := [(5, .int 0), (4, .int (I 22 x3.toNatClampNeg)), (0, .ref (ad 0)), (3, .int x3)]) hx hb dM_make_60 hl (by decide) rfl (fun ls hl => ?_)
      rw [hK62] at h
      exact h _ _ _ hP hS (lv_sub hl [2, 3, 1, 0] rfl)
  have c62 : ∀ (I : mI) (J : mJ) (x3 : Int32) (x4 : Int32) (x5 : Int32), wp_M_make_62 K4 K36 K62 (qM_make S I0 J0 a1) I J a1 x3 x4 x5 → K62 I J x3 x4 x5 := by
    intro I J x3 x4 x5 h
    rw [hK62]
    intro H locs ls hP hS hl
    unfold wp_M_make_62 at h
    refine lv_iload hx hb dM_make_62 (lv_at hl 3 rfl) ?_
    refine lv_aload_n hx hb dM_make_64 rfl (lv_at hl 0 rfl) ?_
    refine va_get (D := D) (ci := 6) (v := .ref (ad 4)) (C := RM) (T := TM) (N := 33) hx hb htb inM hown hK hP 0 (mw_at (by decide) (ym_0 _ _ _ _)) rfl 7 (by decide) (htb _ k2_179) (fun _ h9 => h9) rfl dM_make_65 ?_
    refine lv_iload hx hb dM_make_68 (lv_at hl 2 rfl) ?_
    obtain ⟨hn15, h⟩ := h
    refine mr_iald hx hb hK hP 4 0 (by decide) rfl rfl hn15 dM_make_70 ?_
    refine lv_icmp_ge (tgt := 111) hx hb dM_make_71 (by decide) (fun hc => ?_) (fun hc => ?_)
    · have h := h.1 hc
      refine lv_iinc (k := 1) (v := x3 + (-1)) (lv' := [(3, .int (x3 + (-1))), (0, .ref (ad 0)), (4, .int x4), (5, .int x5)]) hx hb dM_make_111 hl rfl (by rfl) (by decide) rfl (fun ls hl => ?_)
      refine lv_goto (tgt := 36) hx hb dM_make_114 (by decide) ?_
      rw [hK36] at h
      exact h _ _ _ hP hS (lv_sub hl [1, 0] rfl)
    · have h := h.2 hc
      refine lv_aload_n hx hb dM_make_74 rfl (lv_at hl 0 rfl) ?_
      refine lv_aload_n hx hb dM_make_75 rfl (lv_at hl 0 rfl) ?_
      refine va_get (D := D) (ci := 6) (v := .ref (ad 5)) (C := RM) (T := TM) (N := 33) hx hb htb inM hown hK hP 0 (mw_at (by decide) (ym_0 _ _ _ _)) rfl 8 (by decide) (htb _ k2_180) (fun _ h9 => h9) rfl dM_make_76 ?_
      refine lv_iconst (v := 4) hx hb dM_make_79 (by decide) ?_
      refine lv_iload hx hb dM_make_80 (lv_at hl 2 rfl) ?_
      refine lv_imul hx hb dM_make_82 ?_
      refine lv_iload hx hb dM_make_83 (lv_at hl 3 rfl) ?_
      refine lv_iadd hx hb dM_make_85 ?_
      obtain ⟨hn16, h⟩ := h
      refine mr_iald hx hb hK hP 5 0 (by decide) rfl rfl hn16 dM_make_86 ?_
      refine lv_aload_n hx hb dM_make_87 rfl (lv_at hl 0 rfl) ?_
      refine va_get (D := D) (ci := 6) (v := .ref (ad 2)) (C := RM) (T := TM) (N := 33) hx hb htb inM hown hK hP 0 (mw_at (by decide) (ym_0 _ _ _ _)) rfl 5 (by decide) (htb _ k2_177) (fun _ h9 => h9) rfl dM_make_88 ?_
      refine lv_iload hx hb dM_make_91 (lv_at hl 2 rfl) ?_
      obtain ⟨hn17, h⟩ := h
      refine mr_iald hx hb hK hP 2 0 (by decide) rfl rfl hn17 dM_make_93 ?_
      refine lv_aload_n hx hb dM_make_94 rfl (lv_at hl 0 rfl) ?_
      refine va_get (D := D) (ci := 6) (v := .ref (ad 3)) (C := RM) (T := TM) (N := 33) hx hb htb inM hown hK hP 0 (mw_at (by decide) (ym_0 _ _ _ _)) rfl 6 (by decide) (htb _ k2_178) (fun _ h9 => h9) rfl dM_make_95 ?_
      refine lv_iload hx hb dM_make_98 (lv_at hl 2 rfl) ?_
      obtain ⟨hn18, h⟩ := h
      refine mr_iald hx hb hK hP 3 0 (by decide) rfl rfl hn18 dM_make_100 ?_
      obtain ⟨S19, h⟩ := h
      obtain ⟨hp20, h⟩ := h
      refine mc_i (va_runV (As := [.int (I 5 ((4 * x4) + x5).toNatClampNeg), .int (I 2 x4.toNatClampNeg), .int (I 3 x4.toNatClampNeg)]) (rest := []) ⟨hx, hb, hml, hown, htb⟩ (C_M_item l D ca ad S19 I J (I 5 ((4 * x4) + x5).toNatClampNeg) (I 2 x4.toNatClampNeg) (I 3 x4.toNatClampNeg) hp20) (cwV 3 htb (gd_v k3_63 k3_65 ks25 k1_8 k3_66) rfl rfl rfl (by decide +kernel) ⟨Nat.le_of_ble_eq_true rfl, Nat.le_of_ble_eq_true rfl⟩) (mPre_V hK hP hD hN rfl (mw_at (by decide) (ym_0 _ _ _ _))) rfl rfl hl.1 rfl (lv_room (Nat.le_of_ble_eq_true rfl)) dM_make_101 ⟨Nat.le_of_ble_eq_true rfl, Nat.le_of_ble_eq_true rfl⟩) hS (fun r21 I22 J23 H locs hpost hP hS => ?_)
      have h := h r21 I22 J23 hpost
      refine lv_pop hx hb dM_make_104 rfl ?_
      refine lv_iinc (k := 3) (v := x5 + 1) (lv' := [(5, .int (x5 + 1)), (0, .ref (ad 0)), (3, .int x3), (4, .int x4)]) hx hb dM_make_105 hl rfl (by rfl) (by decide) rfl (fun ls hl => ?_)
      refine lv_goto (tgt := 62) hx hb dM_make_108 (by decide) ?_
      rw [hK62] at h
      exact h _ _ _ hP hS (lv_sub hl [1, 2, 3, 0] rfl)
  have h := P_M_make S I0 J0 a1  hp K4 K36 K62 (qM_make S I0 J0 a1) c4 c36 c62 (fun _ _ h => h)
  unfold wp_M_make at h
  refine lv_iconst (v := 0) hx hb dM_make_0 (by decide) ?_
  refine lv_istore_n (lv' := [(2, .int 0), (0, .ref (ad 0)), (1, .int a1)]) hx hb dM_make_1 rfl hl (by decide) rfl (fun ls hl => ?_)
  refine lv_iload_n hx hb dM_make_2 rfl (lv_at hl 2 rfl) ?_
  refine lv_istore_n (lv' := [(3, .int a1), (2, .int 0), (0, .ref (ad 0)), (1, .int a1)]) hx hb dM_make_3 rfl hl (by decide) rfl (fun ls hl => ?_)
  rw [hK4] at h
  exact h _ _ _ hP hS (lv_sub hl [2, 1, 0] rfl)
