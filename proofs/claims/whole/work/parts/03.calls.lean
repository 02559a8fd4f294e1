-- contracts over a memory: start, end, calls
abbrev mNl : Type := List (String × Nat × MethodName × String)
def mNW (L : mNl) (U : State) : Prop := ∀ q ∈ L, va_Nw (.methodLinkNest q.1 q.2.1 q.2.2.1 q.2.2.2) U
theorem mNW.warm {L : mNl} {s U : State} (h : mNW L s) (hW : s.WarmedH U.vm) : mNW L U := fun q hq => va_Nw.warmM hW (h q hq)
def mPre (D : va_G) (cl : List vw_C) (tys : List (ClassId × FieldType)) (N : Nat) (ad : Nat → Nat) (mk : mMk) (L : mNl) (I : mI) (J : mJ) (U : State) : Prop := va_P D cl (mw N ad mk I J) U.heap ∧ va_K D cl tys U ∧ va_D (fun _ => True) (mw N ad mk I J) ∧ mNW L U
def mQi (D : va_G) (cl : List vw_C) (N : Nat) (ad : Nat → Nat) (mk : mMk) (post : Int32 → mI → mJ → Prop) : Array Value → State → Outcome → State → Prop := va_Qi (S := mI × mJ) (fun r u => post r u.1 u.2) (fun u t => va_P D cl (mw N ad mk u.1 u.2) t.heap) (mA N ad)
def mQv (D : va_G) (cl : List vw_C) (N : Nat) (ad : Nat → Nat) (mk : mMk) (post : mI → mJ → Prop) : Array Value → State → Outcome → State → Prop := va_Qv (S := mI × mJ) (fun u => post u.1 u.2) (fun u t => va_P D cl (mw N ad mk u.1 u.2) t.heap) (mA N ad)
theorem mPre_blind {D : va_G} {cl : List vw_C} {tys : List (ClassId × FieldType)} {N : Nat} {ad : Nat → Nat} {mk : mMk} {L : mNl} {I : mI} {J : mJ} {av : List Value} : FrameBlind (va_Pc av (mPre D cl tys N ad mk L I J)) := by
  intro a U g mk' q
  obtain ⟨q0, qP, qK, qD, qN⟩ := q
  exact ⟨q0, qP, va_K.moved (u := U) (U := U.calling g mk' a) (Vm.Alike.refl U.vm) qK, qD, fun w hw => va_Nw.same rfl rfl (qN w hw)⟩
theorem mPre_V {s : State} {H : Heap} {D : va_G} {cl : List vw_C} {tys : List (ClassId × FieldType)} {N : Nat} {ad : Nat → Nat} {mk : mMk} {L : mNl} {I I0 : mI} {J J0 : mJ} {A : Nat → Prop} {ci j : Nat} {C : String} {T : u_T} {M : Nat} {fs As : List Value} (hK : va_K D cl tys s) (hP : va_P D cl (mw N ad mk I J) H) (hD : va_D A (mw N ad mk I0 J0)) (hN : mNW L s) (hc : cl[ci]? = some (C, T, M)) (he : (mw N ad mk I J)[j]? = some (ad j, .inr (ci, fs))) : PreV s H C (ad j) (va_Pc (.ref (ad j) :: As) (mPre D cl tys N ad mk L I J)) As :=
  ⟨mPre_blind, va_recv hK hP hc he, fun U hU hW => ⟨rfl, by rw [hU]; exact hP, va_K.moved hW.alike hK, (mw_D hD I J).weaken (fun _ _ _ _ => trivial), hN.warm hW⟩⟩
theorem mPre_S {s : State} {H : Heap} {D : va_G} {cl : List vw_C} {tys : List (ClassId × FieldType)} {N : Nat} {ad : Nat → Nat} {mk : mMk} {L : mNl} {I I0 : mI} {J J0 : mJ} {A : Nat → Prop} {As : List Value} (hK : va_K D cl tys s) (hP : va_P D cl (mw N ad mk I J) H) (hD : va_D A (mw N ad mk I0 J0)) (hN : mNW L s) : PreS s H (va_Pc As (mPre D cl tys N ad mk L I J)) As :=
  ⟨mPre_blind, fun U hU hW => ⟨rfl, by rw [hU]; exact hP, va_K.moved hW.alike hK, (mw_D hD I J).weaken (fun _ _ _ _ => trivial), hN.warm hW⟩⟩
section MC
variable {p : Program} {l : Launch} {e : Env} {R : Room} {s : State} {m : MethodId} {args : Array Value} {below : List Frame} {meth : Method} {c : Code} {H H0 : Heap} {locs : List Loc} {cells slots : Nat} {Q : State → Prop} {cc : ByteArray} {pc : Nat} {ls : Array Slot} {rest st0 : List Value} {a : Array Value}
variable {D : va_G} {cl : List vw_C} {N : Nat} {ad : Nat → Nat} {mk : mMk} {I I0 : mI} {J J0 : mJ}
theorem mc_i {post : Int32 → mI → mJ → Prop} (hr : va_Run p l e R s m args below meth c H locs cells slots 0 0 (F0 m pc ls st0) rest (mQi D cl N ad mk post a) (mA N ad)) (hS : va_S (mA N ad) H0 H locs)
    (kk : ∀ (r : Int32) (I' : mI) (J' : mJ) (H1 : Heap) (locs1 : List Loc), post r I' J' → va_P D cl (mw N ad mk I' J') H1 → va_S (mA N ad) H0 H1 locs1 → W p l e R s m args below meth c H1 locs1 cells slots Q (F0 m (pc + 3) ls (.int r :: rest))) : W p l e R s m args below meth c H locs cells slots Q (F0 m pc ls st0) :=
  va_calli hr hS (fun _ _ h => h) (fun _ h => h) (fun r u t H1 locs1 ht _ hp hB _ _ hS1 => kk r u.1 u.2 H1 locs1 hp (by rw [← ht]; exact hB) hS1)
theorem mc_v {post : mI → mJ → Prop} (hr : va_Run p l e R s m args below meth c H locs cells slots 0 0 (F0 m pc ls st0) rest (mQv D cl N ad mk post a) (mA N ad)) (hS : va_S (mA N ad) H0 H locs)
    (kk : ∀ (I' : mI) (J' : mJ) (H1 : Heap) (locs1 : List Loc), post I' J' → va_P D cl (mw N ad mk I' J') H1 → va_S (mA N ad) H0 H1 locs1 → W p l e R s m args below meth c H1 locs1 cells slots Q (F0 m (pc + 3) ls rest)) : W p l e R s m args below meth c H locs cells slots Q (F0 m pc ls st0) :=
  va_callv hr hS (fun _ _ h => h) (fun _ h => h) (fun u t H1 locs1 ht _ hp hB _ _ hS1 => kk u.1 u.2 H1 locs1 hp (by rw [← ht]; exact hB) hS1)
/-- a call that reads alone -/
theorem mc_r {f : Int32} (hr : va_Run p l e R s m args below meth c H locs cells slots 0 0 (F0 m pc ls st0) rest (mQi D cl N ad mk (fun r I' J' => r = f ∧ I' = I ∧ J' = J) a) (mA N ad)) (hS : va_S (mA N ad) H0 H locs)
    (kk : ∀ (H1 : Heap) (locs1 : List Loc), va_P D cl (mw N ad mk I J) H1 → va_S (mA N ad) H0 H1 locs1 → W p l e R s m args below meth c H1 locs1 cells slots Q (F0 m (pc + 3) ls (.int f :: rest))) : W p l e R s m args below meth c H locs cells slots Q (F0 m pc ls st0) :=
  mc_i hr hS (fun r I' J' H1 locs1 hp hP1 hS1 => by
    obtain ⟨rfl, rfl, rfl⟩ := hp
    exact kk H1 locs1 hP1 hS1)
/-- ends -/
theorem me_i {I : mI} {J : mJ} {v : Int32} {post : Int32 → mI → mJ → Prop} (hexec : p.tables.exec = Jvm.exec) (hb : c.code = cc) (hr : meth.sig.returnType = some .int) (hlk : meth.locks = false) (hP : va_P D cl (mw N ad mk I J) H) (hS : va_S (mA N ad) s.heap H locs) (hp : post v I J) (hdg : decode cc pc = .ok (.ireturn, 1)) : W p l e R s m args below meth c H locs cells slots (MQ below (mQi D cl N ad mk post) args s cells slots (mA N ad)) (F0 m pc ls [.int v]) :=
  W.iret hexec hb hr (fun t ht _ => ⟨⟨v, (I, J), rfl, hp, by show va_P D cl (mw N ad mk I J) t.heap; rw [ht]; exact hP⟩, hS.F ht⟩) hS.2.2 hdg hlk
theorem me_z {I : mI} {J : mJ} {v : Int32} {post : Int32 → mI → mJ → Prop} (hexec : p.tables.exec = Jvm.exec) (hb : c.code = cc) (hr : meth.sig.returnType = some .boolean) (hlk : meth.locks = false) (hP : va_P D cl (mw N ad mk I J) H) (hS : va_S (mA N ad) s.heap H locs) (hn : narrow .boolean (.int v) = .int v) (hp : post v I J) (hdg : decode cc pc = .ok (.ireturn, 1)) : W p l e R s m args below meth c H locs cells slots (MQ below (mQi D cl N ad mk post) args s cells slots (mA N ad)) (F0 m pc ls [.int v]) :=
  W.zret hexec hb hr hn (fun t ht _ => ⟨⟨v, (I, J), rfl, hp, by show va_P D cl (mw N ad mk I J) t.heap; rw [ht]; exact hP⟩, hS.F ht⟩) hS.2.2 hdg hlk
theorem me_v {I : mI} {J : mJ} {post : mI → mJ → Prop} (hexec : p.tables.exec = Jvm.exec) (hb : c.code = cc) (hr : meth.sig.returnType = none) (hlk : meth.locks = false) (hP : va_P D cl (mw N ad mk I J) H) (hS : va_S (mA N ad) s.heap H locs) (hp : post I J) (hdg : decode cc pc = .ok (.return_, 1)) : W p l e R s m args below meth c H locs cells slots (MQ below (mQv D cl N ad mk post) args s cells slots (mA N ad)) (F0 m pc ls []) :=
  W.vret hexec hb hr (fun t ht _ => ⟨⟨(I, J), rfl, hp, by show va_P D cl (mw N ad mk I J) t.heap; rw [ht]; exact hP⟩, hS.F ht⟩) hS.2.2 hdg hlk
end MC
