-- memory: offset j, place k. A world is a table of cells, a row an offset.
abbrev mI : Type := Nat → Nat → Int32
abbrev mJ : Type := Nat → Nat → Int64
def mu (I : mI) (j k : Nat) (x : Int32) : mI := fun a => if a = j then upd (I j) k x else I a
def mul (J : mJ) (j k : Nat) (x : Int64) : mJ := fun a => if a = j then vp_updL (J j) k x else J a
def mrow (I : mI) (j : Nat) (f : Nat → Int32) : mI := fun a => if a = j then f else I a
theorem mu_self (I : mI) (j k : Nat) (x : Int32) : mu I j k x j = upd (I j) k x := if_pos rfl
theorem mu_other (I : mI) {j i : Nat} (k : Nat) (x : Int32) (h : i ≠ j) : mu I j k x i = I i := if_neg h
theorem mul_self (J : mJ) (j k : Nat) (x : Int64) : mul J j k x j = vp_updL (J j) k x := if_pos rfl
theorem mul_other (J : mJ) {j i : Nat} (k : Nat) (x : Int64) (h : i ≠ j) : mul J j k x i = J i := if_neg h
theorem mrow_self (I : mI) (j : Nat) (f : Nat → Int32) : mrow I j f j = f := if_pos rfl
theorem mrow_other (I : mI) {j i : Nat} (f : Nat → Int32) (h : i ≠ j) : mrow I j f i = I i := if_neg h
theorem mu_at (I : mI) (j k : Nat) (x : Int32) (a b : Nat) : mu I j k x a b = if a = j ∧ b = k then x else I a b := by
  unfold mu upd
  by_cases h : a = j
  · subst h
    by_cases h2 : b = k
    · simp [h2]
    · simp [h2]
  · simp [h]
theorem mul_at (J : mJ) (j k : Nat) (x : Int64) (a b : Nat) : mul J j k x a b = if a = j ∧ b = k then x else J a b := by
  unfold mul vp_updL
  by_cases h : a = j
  · subst h
    by_cases h2 : b = k
    · simp [h2]
    · simp [h2]
  · simp [h]
theorem mrow_at (I : mI) (j : Nat) (f : Nat → Int32) (a b : Nat) : mrow I j f a b = if a = j then f b else I a b := by
  unfold mrow
  by_cases h : a = j
  · simp [h]
  · simp [h]
abbrev mMk : Type := Nat → (Nat → Int32) → (Nat → Int64) → va_E
def mw (N : Nat) (ad : Nat → Nat) (mk : mMk) (I : mI) (J : mJ) : va_W := (List.range N).map (fun j => (ad j, mk j (I j) (J j)))
def mA (N : Nat) (ad : Nat → Nat) : Nat → Prop := fun q => ∃ j, j < N ∧ q = ad j
theorem mw_get {N : Nat} {ad : Nat → Nat} {mk : mMk} {I : mI} {J : mJ} {j : Nat} (h : j < N) : (mw N ad mk I J)[j]? = some (ad j, mk j (I j) (J j)) := by
  unfold mw
  rw [List.getElem?_map, List.getElem?_range h]
  rfl
theorem mw_at {N : Nat} {ad : Nat → Nat} {mk : mMk} {I : mI} {J : mJ} {j : Nat} {e : va_E} (h : j < N) (he : mk j (I j) (J j) = e) : (mw N ad mk I J)[j]? = some (ad j, e) := by
  rw [mw_get h, he]
theorem mw_len {N : Nat} {ad : Nat → Nat} {mk : mMk} {I : mI} {J : mJ} : (mw N ad mk I J).length = N := by
  unfold mw
  simp
theorem mw_set {N : Nat} {ad : Nat → Nat} {mk : mMk} {I I' : mI} {J J' : mJ} {j : Nat} {e : va_E} (hj : j < N) (hI : ∀ i, i ≠ j → I' i = I i) (hJ : ∀ i, i ≠ j → J' i = J i) (he : mk j (I' j) (J' j) = e) : (mw N ad mk I J).set j (ad j, e) = mw N ad mk I' J' := by
  apply List.ext_getElem?
  intro i
  by_cases hij : i = j
  · subst hij
    rw [List.getElem?_set_self (by rw [mw_len]; exact hj), mw_get hj, he]
  · rw [List.getElem?_set_ne (Ne.symm hij)]
    by_cases hi : i < N
    · rw [mw_get hi, mw_get hi, hI i hij, hJ i hij]
    · rw [List.getElem?_eq_none (by rw [mw_len]; omega), List.getElem?_eq_none (by rw [mw_len]; omega)]
theorem mw_D {N : Nat} {ad : Nat → Nat} {mk : mMk} {I : mI} {J : mJ} {A : Nat → Prop} (h : va_D A (mw N ad mk I J)) (I' : mI) (J' : mJ) : va_D A (mw N ad mk I' J') := by
  have key : ∀ (i : Nat) (q : Nat × va_E), (mw N ad mk I' J')[i]? = some q → i < N ∧ q.1 = ad i := by
    intro i q hq
    have hi : i < N := by
      have := (List.getElem?_eq_some_iff.mp hq).1
      rwa [mw_len] at this
    rw [mw_get hi] at hq
    cases hq
    exact ⟨hi, rfl⟩
  refine ⟨fun i j x y hi hj hxy => ?_, fun k q hk => ?_⟩
  · obtain ⟨h1, e1⟩ := key i x hi
    obtain ⟨h2, e2⟩ := key j y hj
    exact h.1 i j _ _ (mw_get h1) (mw_get h2) (by show ad i = ad j; rw [← e1, ← e2]; exact hxy)
  · obtain ⟨h1, e1⟩ := key k q hk
    rw [e1]
    exact h.2 k _ (mw_get h1)
theorem mw_Dm {N : Nat} {ad : Nat → Nat} {mk : mMk} {I : mI} {J : mJ} {A : Nat → Prop} (h : va_D A (mw N ad mk I J)) : va_D (mA N ad) (mw N ad mk I J) := by
  refine ⟨h.1, fun k q hk => ?_⟩
  have hi : k < N := by
    have := (List.getElem?_eq_some_iff.mp hk).1
    rwa [mw_len] at this
  rw [mw_get hi] at hk
  cases hk
  exact ⟨k, hi, rfl⟩
section MR
variable {p : Program} {l : Launch} {e : Env} {R : Room} {s : State} {m : MethodId} {args : Array Value} {below : List Frame} {meth : Method} {c : Code} {H H0 : Heap} {locs : List Loc} {cells slots : Nat} {Q : State → Prop} {cc : ByteArray} {pc : Nat} {ls : Array Slot} {rest : List Value}
variable {D : va_G} {cl : List vw_C} {tys : List (ClassId × FieldType)} {A : Nat → Prop} {N : Nat} {ad : Nat → Nat} {mk : mMk} {I I0 : mI} {J J0 : mJ}
theorem mr_puti (hexec : p.tables.exec = Jvm.exec) (hb : c.code = cc) {own ref C : String} {T : u_T} {M ci index : Nat} {Ts : List Cond} (hts : ∀ w ∈ Ts, w.before args s = true) (hin : ∀ w ∈ u_ws C T M, w ∈ Ts) (ty0 : Nat → FieldType) (hty : ∀ k, k < M → parseFieldDescriptor (T k).2.2.1 = some (ty0 k)) (hnm : ∀ a, a < M → ∀ b, b < M → a ≠ b → (T a).2.1 ≠ (T b).2.1) (hown : s.vm.findClass own = some m.cls) (hK : va_K D cl tys s) (hP : va_P D cl (mw N ad mk I J) H) (hD : va_D A (mw N ad mk I0 J0)) (hS : va_S A H0 H locs) (j : Nat) (hj : j < N) {fs : List Value} (he : mk j (I j) (J j) = .inr (ci, fs)) (hc : cl[ci]? = some (C, T, M)) (k : Nat) (hk : k < M) (hlink : (Cond.fieldLink own index ref (T k).2.1 (T k).2.2.1).before args s = true) (hsame : ∀ x, s.fieldFound? (T k).1 (T k).2.1 (T k).2.2.1 = some x → s.fieldFound? ref (T k).2.1 (T k).2.2.1 = some x) (hfin : (T k).2.2.2 = false) {x : Int32} (hd : parseFieldDescriptor (T k).2.2.1 = some .int) (hl : k < fs.length) (he' : mk j (upd (I j) k x) (J j) = .inr (ci, fs.set k (.int x)))
    (hdg : decode cc pc = .ok (.putfield index, 3)) (kk : ∀ (H1 : Heap) (locs1 : List Loc), va_P D cl (mw N ad mk (mu I j k x) J) H1 → va_S A H0 H1 locs1 → W p l e R s m args below meth c H1 locs1 cells slots Q (F0 m (pc + 3) ls rest)) : W p l e R s m args below meth c H locs cells slots Q (F0 m pc ls (.int x :: .ref (ad j) :: rest)) := by
  refine va_put hexec hb hts hin ty0 hty hnm hown hK hP (mw_D hD I J) hS j (mw_at hj he) hc k hk hlink hsame hfin hd rfl rfl hl hdg (fun H1 locs1 hP1 _ hS1 => ?_)
  refine kk H1 locs1 ?_ hS1
  rwa [mw_set hj (fun i hi => mu_other I k x hi) (fun _ _ => rfl) (by rw [mu_self]; exact he')] at hP1
theorem mr_putl (hexec : p.tables.exec = Jvm.exec) (hb : c.code = cc) {own ref C : String} {T : u_T} {M ci index : Nat} {Ts : List Cond} (hts : ∀ w ∈ Ts, w.before args s = true) (hin : ∀ w ∈ u_ws C T M, w ∈ Ts) (ty0 : Nat → FieldType) (hty : ∀ k, k < M → parseFieldDescriptor (T k).2.2.1 = some (ty0 k)) (hnm : ∀ a, a < M → ∀ b, b < M → a ≠ b → (T a).2.1 ≠ (T b).2.1) (hown : s.vm.findClass own = some m.cls) (hK : va_K D cl tys s) (hP : va_P D cl (mw N ad mk I J) H) (hD : va_D A (mw N ad mk I0 J0)) (hS : va_S A H0 H locs) (j : Nat) (hj : j < N) {fs : List Value} (he : mk j (I j) (J j) = .inr (ci, fs)) (hc : cl[ci]? = some (C, T, M)) (k : Nat) (hk : k < M) (hlink : (Cond.fieldLink own index ref (T k).2.1 (T k).2.2.1).before args s = true) (hsame : ∀ x, s.fieldFound? (T k).1 (T k).2.1 (T k).2.2.1 = some x → s.fieldFound? ref (T k).2.1 (T k).2.2.1 = some x) (hfin : (T k).2.2.2 = false) {x : Int64} (hd : parseFieldDescriptor (T k).2.2.1 = some .long) (hl : k < fs.length) (he' : mk j (I j) (vp_updL (J j) k x) = .inr (ci, fs.set k (.long x)))
    (hdg : decode cc pc = .ok (.putfield index, 3)) (kk : ∀ (H1 : Heap) (locs1 : List Loc), va_P D cl (mw N ad mk I (mul J j k x)) H1 → va_S A H0 H1 locs1 → W p l e R s m args below meth c H1 locs1 cells slots Q (F0 m (pc + 3) ls rest)) : W p l e R s m args below meth c H locs cells slots Q (F0 m pc ls (.long x :: .ref (ad j) :: rest)) := by
  refine va_put hexec hb hts hin ty0 hty hnm hown hK hP (mw_D hD I J) hS j (mw_at hj he) hc k hk hlink hsame hfin hd rfl rfl hl hdg (fun H1 locs1 hP1 _ hS1 => ?_)
  refine kk H1 locs1 ?_ hS1
  rwa [mw_set hj (fun _ _ => rfl) (fun i hi => mul_other J k x hi) (by rw [mul_self]; exact he')] at hP1
theorem mr_iald (hexec : p.tables.exec = Jvm.exec) (hb : c.code = cc) (hK : va_K D cl tys s) (hP : va_P D cl (mw N ad mk I J) H) (j t0 : Nat) (hj : j < N) {cA : ClassId} {n : Nat} (he : mk j (I j) (J j) = .inl (cA, n, .inl (I j))) (ht : tys[t0]? = some (cA, .int)) {i : Int32} (hin : vp_in i n) (hdg : decode cc pc = .ok (.iaload, 1))
    (kk : W p l e R s m args below meth c H locs cells slots Q (F0 m (pc + 1) ls (.int (I j i.toNatClampNeg) :: rest))) : W p l e R s m args below meth c H locs cells slots Q (F0 m pc ls (.int i :: .ref (ad j) :: rest)) :=
  va_iald hexec hb hK hP j t0 (mw_at hj he) ht hin hdg kk
theorem mr_zald (hexec : p.tables.exec = Jvm.exec) (hb : c.code = cc) (hK : va_K D cl tys s) (hP : va_P D cl (mw N ad mk I J) H) (j t0 : Nat) (hj : j < N) {cA : ClassId} {n : Nat} (he : mk j (I j) (J j) = .inl (cA, n, .inl (I j))) (ht : tys[t0]? = some (cA, .boolean)) {i : Int32} (hin : vp_in i n) (hdg : decode cc pc = .ok (.baload, 1))
    (kk : W p l e R s m args below meth c H locs cells slots Q (F0 m (pc + 1) ls (.int (I j i.toNatClampNeg) :: rest))) : W p l e R s m args below meth c H locs cells slots Q (F0 m pc ls (.int i :: .ref (ad j) :: rest)) :=
  va_zald hexec hb hK hP j t0 (mw_at hj he) ht hin hdg kk
theorem mr_iast (hexec : p.tables.exec = Jvm.exec) (hb : c.code = cc) (hK : va_K D cl tys s) (hP : va_P D cl (mw N ad mk I J) H) (hD : va_D A (mw N ad mk I0 J0)) (hS : va_S A H0 H locs) (j t0 : Nat) (hj : j < N) {cA : ClassId} {n : Nat} (he : ∀ f, mk j f (J j) = .inl (cA, n, .inl f)) (ht : tys[t0]? = some (cA, .int)) {i x : Int32} (hin : vp_in i n) (hdg : decode cc pc = .ok (.iastore, 1))
    (kk : ∀ (H1 : Heap) (locs1 : List Loc), va_P D cl (mw N ad mk (mu I j i.toNatClampNeg x) J) H1 → va_S A H0 H1 locs1 → W p l e R s m args below meth c H1 locs1 cells slots Q (F0 m (pc + 1) ls rest)) : W p l e R s m args below meth c H locs cells slots Q (F0 m pc ls (.int x :: .int i :: .ref (ad j) :: rest)) := by
  refine va_iast hexec hb hK hP (mw_D hD I J) hS j t0 (mw_at hj (he (I j))) ht hin hdg (fun H1 locs1 hP1 _ hS1 => ?_)
  refine kk H1 locs1 ?_ hS1
  rwa [mw_set hj (fun i hi => mu_other I _ x hi) (fun _ _ => rfl) (by rw [mu_self]; exact he _)] at hP1
theorem mr_zast (hexec : p.tables.exec = Jvm.exec) (hb : c.code = cc) (hK : va_K D cl tys s) (hP : va_P D cl (mw N ad mk I J) H) (hD : va_D A (mw N ad mk I0 J0)) (hS : va_S A H0 H locs) (j t0 : Nat) (hj : j < N) {cA : ClassId} {n : Nat} (he : ∀ f, mk j f (J j) = .inl (cA, n, .inl f)) (ht : tys[t0]? = some (cA, .boolean)) {i x : Int32} (hin : vp_in i n) (hdg : decode cc pc = .ok (.bastore, 1))
    (kk : ∀ (H1 : Heap) (locs1 : List Loc), va_P D cl (mw N ad mk (mu I j i.toNatClampNeg (vp_nar .boolean x)) J) H1 → va_S A H0 H1 locs1 → W p l e R s m args below meth c H1 locs1 cells slots Q (F0 m (pc + 1) ls rest)) : W p l e R s m args below meth c H locs cells slots Q (F0 m pc ls (.int x :: .int i :: .ref (ad j) :: rest)) := by
  refine va_zast hexec hb hK hP (mw_D hD I J) hS j t0 (mw_at hj (he (I j))) ht hin hdg (fun H1 locs1 hP1 _ hS1 => ?_)
  refine kk H1 locs1 ?_ hS1
  rwa [mw_set hj (fun i hi => mu_other I _ _ hi) (fun _ _ => rfl) (by rw [mu_self]; exact he _)] at hP1
theorem mr_aald (hexec : p.tables.exec = Jvm.exec) (hb : c.code = cc) (hK : va_K D cl tys s) (hP : va_P D cl (mw N ad mk I J) H) (j t0 : Nat) (hj : j < N) {cA : ClassId} {C : String} {n : Nat} {g : Nat → Nat} (he : mk j (I j) (J j) = .inl (cA, n, .inr (.inr (.inr (.inr (fun b => some (g b))))))) (ht : tys[t0]? = some (cA, .object C)) {i : Int32} (hin : vp_in i n) (hdg : decode cc pc = .ok (.aaload, 1))
    (kk : W p l e R s m args below meth c H locs cells slots Q (F0 m (pc + 1) ls (.ref (g i.toNatClampNeg) :: rest))) : W p l e R s m args below meth c H locs cells slots Q (F0 m pc ls (.int i :: .ref (ad j) :: rest)) :=
  va_aldq hexec hb hK hP j t0 (mw_at hj he) ht hin hdg kk
theorem mr_copyi (hexec : p.tables.exec = Jvm.exec) (hb : c.code = cc) (hml : c.maxLocals = ls.size) {own : String} {index : Nat} (hown : s.vm.findClass own = some m.cls) (hlink : (Cond.methodLink own index arraycopyName).before args s = true) (hnat : (Cond.native arraycopyName).before args s = true) (hstat : (Cond.static arraycopyName).before args s = true) (hini : (Cond.initialized "java/lang/System").before args s = true)
    (hK : va_K D cl tys s) (hP : va_P D cl (mw N ad mk I J) H) (hD : va_D A (mw N ad mk I0 J0)) (hS : va_S A H0 H locs) (j0 j1 t0 : Nat) (hj0 : j0 < N) (hj1 : j1 < N) {cA : ClassId} {n0 n1 : Nat} (he0 : mk j0 (I j0) (J j0) = .inl (cA, n0, .inl (I j0))) (he1 : ∀ f, mk j1 f (J j1) = .inl (cA, n1, .inl f)) (ht : tys[t0]? = some (cA, .int))
    {sp dp n : Int32} (h1 : ¬ sp < 0) (h2 : ¬ dp < 0) (h3 : ¬ n < 0) (h4 : sp.toNatClampNeg + n.toNatClampNeg ≤ n0) (h5 : dp.toNatClampNeg + n.toNatClampNeg ≤ n1)
    (hframes : 1 ≤ R.frames) (hlocals : (rest.map fun v => v.category).sum + (nativeFrameWords "java/lang/System" "arraycopy" 5 + 11) ≤ R.locals) (hdg : decode cc pc = .ok (.invokestatic index, 3))
    (kk : ∀ (H1 : Heap) (locs1 : List Loc), va_P D cl (mw N ad mk (mrow I j1 (va_cpy (I j0) (I j1) sp.toNatClampNeg dp.toNatClampNeg n.toNatClampNeg)) J) H1 → va_S A H0 H1 locs1 → W p l e R s m args below meth c H1 locs1 cells slots Q (F0 m (pc + 3) ls rest)) : W p l e R s m args below meth c H locs cells slots Q (F0 m pc ls (.int n :: .int dp :: .ref (ad j1) :: .int sp :: .ref (ad j0) :: rest)) := by
  refine va_copyi hexec hb hml hown hlink hnat hstat hini hK hP (mw_D hD I J) hS j0 j1 t0 t0 (mw_at hj0 he0) (mw_at hj1 (he1 (I j1))) ht ht rfl h1 h2 h3 h4 h5 (fun _ _ => rfl) hframes hlocals hdg (fun H1 locs1 hP1 _ hS1 => ?_)
  refine kk H1 locs1 ?_ hS1
  rwa [mw_set hj1 (fun i hi => mrow_other I _ hi) (fun _ _ => rfl) (by rw [mrow_self]; exact he1 _)] at hP1
end MR
