theorem cln_b {i : Nat} (hi : i ≤ 60) : cln (3 + 6 * i) := by
  intro j hj
  unfold xk
  refine ⟨fun h => ?_, fun h => ?_, fun h => ?_, fun h => ?_⟩ <;> ((repeat' split at h) <;> omega)
theorem cln_v {i : Nat} (hi : i ≤ 80) : cln (364 + i) := by
  intro j hj
  unfold xk
  refine ⟨fun h => ?_, fun h => ?_, fun h => ?_, fun h => ?_⟩ <;> ((repeat' split at h) <;> omega)
theorem cln_n {i : Nat} (hi : i ≤ 3) : cln (445 + 3 * i) := by
  intro j hj
  unfold xk
  refine ⟨fun h => ?_, fun h => ?_, fun h => ?_, fun h => ?_⟩ <;> ((repeat' split at h) <;> omega)
theorem cln_z {i : Nat} (hi : i ≤ 0) : cln (457 + i) := by
  intro j hj
  unfold xk
  refine ⟨fun h => ?_, fun h => ?_, fun h => ?_, fun h => ?_⟩ <;> ((repeat' split at h) <;> omega)

theorem st_b {ca ad : Nat → Nat} {nv ln z : Int32} {L : List Value} {i : Nat} (hi : i < 60) (p0 p1 p2 p3 p4 p5 : Nat) : gw (3 + 6 * i) (fT ca ad (xI0 nv ln z) xJ0 L i 0 0) ++ [(p0, .inr (0, [.int (-1), .int 0, .int 0, .long 1, .ref p1, .ref p4])), (p1, .inr (1, [.ref p2, .ref p3, .int 0])), (p2, .inl (ca 0, 4, .inl (fun _ => 0))), (p3, .inl (ca 0, 4, .inl (fun _ => 0))), (p4, .inr (3, [.ref p5, .int 0, .int 0, .int 0, .int 0, .int 0, .int 0])), (p5, .inl (ca 0, 7, .inl (fun _ => 32)))] = gw (3 + 6 * i + 6) (fT ca (adx ad (3 + 6 * i) [p0, p1, p2, p3, p4, p5]) (xI0 nv ln z) xJ0 L i 0 0) := by
  have a0 : adx ad (3 + 6 * i) [p0, p1, p2, p3, p4, p5] (3 + 6 * i + 0) = p0 := adx_r ad (3 + 6 * i) [p0, p1, p2, p3, p4, p5] 0
  have a1 : adx ad (3 + 6 * i) [p0, p1, p2, p3, p4, p5] (3 + 6 * i + 1) = p1 := adx_r ad (3 + 6 * i) [p0, p1, p2, p3, p4, p5] 1
  have a2 : adx ad (3 + 6 * i) [p0, p1, p2, p3, p4, p5] (3 + 6 * i + 2) = p2 := adx_r ad (3 + 6 * i) [p0, p1, p2, p3, p4, p5] 2
  have a3 : adx ad (3 + 6 * i) [p0, p1, p2, p3, p4, p5] (3 + 6 * i + 3) = p3 := adx_r ad (3 + 6 * i) [p0, p1, p2, p3, p4, p5] 3
  have a4 : adx ad (3 + 6 * i) [p0, p1, p2, p3, p4, p5] (3 + 6 * i + 4) = p4 := adx_r ad (3 + 6 * i) [p0, p1, p2, p3, p4, p5] 4
  have a5 : adx ad (3 + 6 * i) [p0, p1, p2, p3, p4, p5] (3 + 6 * i + 5) = p5 := adx_r ad (3 + 6 * i) [p0, p1, p2, p3, p4, p5] 5
  refine gw_app rfl (fT_ag (fun j hj => adx_l hj) (cln_b (by omega)) (fun b hb => by omega) (fun b hb => by omega) (fun b hb => by omega)) (fun t ht => ?_)
  rcases (show t = 0 ∨ t = 1 ∨ t = 2 ∨ t = 3 ∨ t = 4 ∨ t = 5 by omega) with rfl | rfl | rfl | rfl | rfl | rfl
  · have e : xk (3 + 6 * i + 0) = 3 := xk_b hi
    rw [fT_x (by omega) (by omega) (by omega) (by omega), xm_B e]
    show _ = some (adx ad (3 + 6 * i) [p0, p1, p2, p3, p4, p5] (3 + 6 * i + 0), (.inr (0, [.int (xI0 nv ln z (3 + 6 * i + 0) 0), .int (xI0 nv ln z (3 + 6 * i + 0) 1), .int (xI0 nv ln z (3 + 6 * i + 0) 2), .long (xJ0 (3 + 6 * i + 0) 3), .ref (adx ad (3 + 6 * i) [p0, p1, p2, p3, p4, p5] (3 + 6 * i + 1)), .ref (adx ad (3 + 6 * i) [p0, p1, p2, p3, p4, p5] (3 + 6 * i + 4))]) : va_E))
    rw [a0, a1, a4, (x0_3 e (by omega)).1, (x0_3 (nv := nv) (ln := ln) (a := z) e (by omega)).2]
    first | rfl | (rw [if_neg (by omega)]; rfl) | (rw [if_pos (by omega)]; rfl) | simp
  · have e : xk (3 + 6 * i + 1) = 4 := xk_BI (xk_b hi)
    rw [fT_x (by omega) (by omega) (by omega) (by omega), xm_I e]
    show _ = some (adx ad (3 + 6 * i) [p0, p1, p2, p3, p4, p5] (3 + 6 * i + 1), (.inr (1, [.ref (adx ad (3 + 6 * i) [p0, p1, p2, p3, p4, p5] (3 + 6 * i + 2)), .ref (adx ad (3 + 6 * i) [p0, p1, p2, p3, p4, p5] (3 + 6 * i + 3)), .int (xI0 nv ln z (3 + 6 * i + 1) 2)]) : va_E))
    rw [a1, a2, a3, x0_z (by omega) (by omega) (by omega)]
    first | rfl | (rw [if_neg (by omega)]; rfl) | (rw [if_pos (by omega)]; rfl) | simp
  · have e : xk (3 + 6 * i + 2) = 5 := xk_I1 (xk_BI (xk_b hi))
    rw [fT_x (by omega) (by omega) (by omega) (by omega), xm_4 e]
    rw [a2, x0_z (by omega) (by omega) (by omega)]
    first | rfl | (rw [if_neg (by omega)]; rfl) | (rw [if_pos (by omega)]; rfl) | simp
  · have e : xk (3 + 6 * i + 3) = 5 := xk_I2 (xk_BI (xk_b hi))
    rw [fT_x (by omega) (by omega) (by omega) (by omega), xm_4 e]
    rw [a3, x0_z (by omega) (by omega) (by omega)]
    first | rfl | (rw [if_neg (by omega)]; rfl) | (rw [if_pos (by omega)]; rfl) | simp
  · have e : xk (3 + 6 * i + 4) = 6 := xk_BS (xk_b hi)
    rw [fT_x (by omega) (by omega) (by omega) (by omega), xm_S e]
    show _ = some (adx ad (3 + 6 * i) [p0, p1, p2, p3, p4, p5] (3 + 6 * i + 4), (.inr (3, [.ref (adx ad (3 + 6 * i) [p0, p1, p2, p3, p4, p5] (3 + 6 * i + 5)), .int (xI0 nv ln z (3 + 6 * i + 4) 1), .int (xI0 nv ln z (3 + 6 * i + 4) 2), .int (xI0 nv ln z (3 + 6 * i + 4) 3), .int (xI0 nv ln z (3 + 6 * i + 4) 4), .int (xI0 nv ln z (3 + 6 * i + 4) 5), .int (xI0 nv ln z (3 + 6 * i + 4) 6)]) : va_E))
    rw [a4, a5, x0_z (by omega) (by omega) (by omega)]
    first | rfl | (rw [if_neg (by omega)]; rfl) | (rw [if_pos (by omega)]; rfl) | simp
  · have e : xk (3 + 6 * i + 5) = 1 := xk_SB (xk_BS (xk_b hi))
    rw [fT_x (by omega) (by omega) (by omega) (by omega), xm_7 e]
    rw [a5, x0_1 e (by omega)]
    first | rfl | (rw [if_neg (by omega)]; rfl) | (rw [if_pos (by omega)]; rfl) | simp
theorem st_v {ca ad : Nat → Nat} {nv ln z : Int32} {L : List Value} {i : Nat} (hi : i < 80) (p0 : Nat) : gw (364 + i) (fT ca ad (xI0 nv ln z) xJ0 L 60 i 0) ++ [(p0, .inr (4, [.int 0, .int 0, .int 0, .int 0, .int 0]))] = gw (364 + i + 1) (fT ca (adx ad (364 + i) [p0]) (xI0 nv ln z) xJ0 L 60 i 0) := by
  have a0 : adx ad (364 + i) [p0] (364 + i + 0) = p0 := adx_r ad (364 + i) [p0] 0
  refine gw_app rfl (fT_ag (fun j hj => adx_l hj) (cln_v (by omega)) (fun b hb => by omega) (fun b hb => by omega) (fun b hb => by omega)) (fun t ht => ?_)
  rcases (show t = 0 by omega) with rfl
  · have e : xk (364 + i + 0) = 8 := xk_v hi
    rw [fT_x (by omega) (by omega) (by omega) (by omega), xm_V e]
    rw [a0, x0_z (by omega) (by omega) (by omega)]
    first | rfl | (rw [if_neg (by omega)]; rfl) | (rw [if_pos (by omega)]; rfl) | simp
theorem st_n {ca ad : Nat → Nat} {nv ln z : Int32} {L : List Value} {i : Nat} (hi : i < 3) (p0 p1 p2 : Nat) : gw (445 + 3 * i) (fT ca ad (xI0 nv ln z) xJ0 L 60 80 i) ++ [(p0, .inr (2, [.long 1, .ref p1, .ref p2, .int 0, .int 0])), (p1, .inl (ca 1, 80, .inl (fun _ => 0))), (p2, .inl (ca 0, 7, .inl (fun _ => -1)))] = gw (445 + 3 * i + 3) (fT ca (adx ad (445 + 3 * i) [p0, p1, p2]) (xI0 nv ln z) xJ0 L 60 80 i) := by
  have a0 : adx ad (445 + 3 * i) [p0, p1, p2] (445 + 3 * i + 0) = p0 := adx_r ad (445 + 3 * i) [p0, p1, p2] 0
  have a1 : adx ad (445 + 3 * i) [p0, p1, p2] (445 + 3 * i + 1) = p1 := adx_r ad (445 + 3 * i) [p0, p1, p2] 1
  have a2 : adx ad (445 + 3 * i) [p0, p1, p2] (445 + 3 * i + 2) = p2 := adx_r ad (445 + 3 * i) [p0, p1, p2] 2
  refine gw_app rfl (fT_ag (fun j hj => adx_l hj) (cln_n (by omega)) (fun b hb => by omega) (fun b hb => by omega) (fun b hb => by omega)) (fun t ht => ?_)
  rcases (show t = 0 ∨ t = 1 ∨ t = 2 by omega) with rfl | rfl | rfl
  · have e : xk (445 + 3 * i + 0) = 10 := xk_n hi
    rw [fT_x (by omega) (by omega) (by omega) (by omega), xm_N e]
    show _ = some (adx ad (445 + 3 * i) [p0, p1, p2] (445 + 3 * i + 0), (.inr (2, [.long (xJ0 (445 + 3 * i + 0) 0), .ref (adx ad (445 + 3 * i) [p0, p1, p2] (445 + 3 * i + 1)), .ref (adx ad (445 + 3 * i) [p0, p1, p2] (445 + 3 * i + 2)), .int (xI0 nv ln z (445 + 3 * i + 0) 3), .int (xI0 nv ln z (445 + 3 * i + 0) 4)]) : va_E))
    rw [a0, a1, a2, x0_z (by omega) (by omega) (by omega), x0_10 e]
    first | rfl | (rw [if_neg (by omega)]; rfl) | (rw [if_pos (by omega)]; rfl) | simp
  · have e : xk (445 + 3 * i + 1) = 11 := xk_NH (xk_n hi)
    rw [fT_x (by omega) (by omega) (by omega) (by omega), xm_Z e]
    rw [a1, x0_z (by omega) (by omega) (by omega)]
    first | rfl | (rw [if_neg (by omega)]; rfl) | (rw [if_pos (by omega)]; rfl) | simp
  · have e : xk (445 + 3 * i + 2) = 1 := xk_NL (xk_n hi)
    rw [fT_x (by omega) (by omega) (by omega) (by omega), xm_7 e]
    rw [a2, x0_1 e (by omega)]
    first | rfl | (rw [if_neg (by omega)]; rfl) | (rw [if_pos (by omega)]; rfl) | simp
theorem st_i {ca ad : Nat → Nat} {nv ln z : Int32} {L : List Value}  (p0 p1 p2 : Nat) : gw (454) (fT ca ad (xI0 nv ln z) xJ0 L 60 80 3) ++ [(p0, .inr (1, [.ref p1, .ref p2, .int 0])), (p1, .inl (ca 0, 4, .inl (fun _ => 0))), (p2, .inl (ca 0, 4, .inl (fun _ => 0)))] = gw (454 + 3) (fT ca (adx ad (454) [p0, p1, p2]) (xI0 nv ln z) xJ0 L 60 80 3) := by
  have a0 : adx ad (454) [p0, p1, p2] (454 + 0) = p0 := adx_r ad (454) [p0, p1, p2] 0
  have a1 : adx ad (454) [p0, p1, p2] (454 + 1) = p1 := adx_r ad (454) [p0, p1, p2] 1
  have a2 : adx ad (454) [p0, p1, p2] (454 + 2) = p2 := adx_r ad (454) [p0, p1, p2] 2
  refine gw_app rfl (fT_ag (fun j hj => adx_l hj) (cln_n (i := 3) (by omega)) (fun b hb => by omega) (fun b hb => by omega) (fun b hb => by omega)) (fun t ht => ?_)
  rcases (show t = 0 ∨ t = 1 ∨ t = 2 by omega) with rfl | rfl | rfl
  · have e : xk (454 + 0) = 4 := rfl
    rw [fT_x (by omega) (by omega) (by omega) (by omega), xm_I e]
    show _ = some (adx ad (454) [p0, p1, p2] (454 + 0), (.inr (1, [.ref (adx ad (454) [p0, p1, p2] (454 + 1)), .ref (adx ad (454) [p0, p1, p2] (454 + 2)), .int (xI0 nv ln z (454 + 0) 2)]) : va_E))
    rw [a0, a1, a2, x0_z (by omega) (by omega) (by omega)]
    first | rfl | (rw [if_neg (by omega)]; rfl) | (rw [if_pos (by omega)]; rfl) | simp
  · have e : xk (454 + 1) = 5 := rfl
    rw [fT_x (by omega) (by omega) (by omega) (by omega), xm_4 e]
    rw [a1, x0_z (by omega) (by omega) (by omega)]
    first | rfl | (rw [if_neg (by omega)]; rfl) | (rw [if_pos (by omega)]; rfl) | simp
  · have e : xk (454 + 2) = 5 := rfl
    rw [fT_x (by omega) (by omega) (by omega) (by omega), xm_4 e]
    rw [a2, x0_z (by omega) (by omega) (by omega)]
    first | rfl | (rw [if_neg (by omega)]; rfl) | (rw [if_pos (by omega)]; rfl) | simp
theorem st_s {ca ad : Nat → Nat} {nv ln z : Int32} {L : List Value}  (p0 p1 : Nat) : gw (457) (fT ca ad (xI0 nv ln z) xJ0 L 60 80 3) ++ [(p0, .inr (3, [.ref p1, .int 0, .int 0, .int 0, .int 0, .int 0, .int 0])), (p1, .inl (ca 0, 7, .inl (fun _ => 32)))] = gw (457 + 2) (fT ca (adx ad (457) [p0, p1]) (xI0 nv ln z) xJ0 L 60 80 3) := by
  have a0 : adx ad (457) [p0, p1] (457 + 0) = p0 := adx_r ad (457) [p0, p1] 0
  have a1 : adx ad (457) [p0, p1] (457 + 1) = p1 := adx_r ad (457) [p0, p1] 1
  refine gw_app rfl (fT_ag (fun j hj => adx_l hj) (cln_z (i := 0) (by omega)) (fun b hb => by omega) (fun b hb => by omega) (fun b hb => by omega)) (fun t ht => ?_)
  rcases (show t = 0 ∨ t = 1 by omega) with rfl | rfl
  · have e : xk (457 + 0) = 6 := rfl
    rw [fT_x (by omega) (by omega) (by omega) (by omega), xm_S e]
    show _ = some (adx ad (457) [p0, p1] (457 + 0), (.inr (3, [.ref (adx ad (457) [p0, p1] (457 + 1)), .int (xI0 nv ln z (457 + 0) 1), .int (xI0 nv ln z (457 + 0) 2), .int (xI0 nv ln z (457 + 0) 3), .int (xI0 nv ln z (457 + 0) 4), .int (xI0 nv ln z (457 + 0) 5), .int (xI0 nv ln z (457 + 0) 6)]) : va_E))
    rw [a0, a1, x0_z (by omega) (by omega) (by omega)]
    first | rfl | (rw [if_neg (by omega)]; rfl) | (rw [if_pos (by omega)]; rfl) | simp
  · have e : xk (457 + 1) = 1 := rfl
    rw [fT_x (by omega) (by omega) (by omega) (by omega), xm_7 e]
    rw [a1, x0_1 e (by omega)]
    first | rfl | (rw [if_neg (by omega)]; rfl) | (rw [if_pos (by omega)]; rfl) | simp

theorem fT_2 {ca ad : Nat → Nat} {I : mI} {J : mJ} {L : List Value} {ib iv im : Nat} : fT ca ad I J L ib iv im 2 = (ad 2, rfA (ca 2) 60 (fun b => if b < ib then some (ad (3 + 6 * b)) else none)) := rfl
theorem fT_0 {ca ad : Nat → Nat} {I : mI} {J : mJ} {L : List Value} {ib iv im : Nat} : fT ca ad I J L ib iv im 0 = (ad 0, .inr (5, L)) := rfl
theorem fT_3 {ca ad : Nat → Nat} {I : mI} {J : mJ} {L : List Value} {ib iv im : Nat} : fT ca ad I J L ib iv im 363 = (ad 363, rfA (ca 3) 80 (fun b => if b < iv then some (ad (364 + b)) else none)) := rfl
theorem fT_4 {ca ad : Nat → Nat} {I : mI} {J : mJ} {L : List Value} {ib iv im : Nat} : fT ca ad I J L ib iv im 444 = (ad 444, rfA (ca 4) 3 (fun b => if b < im then some (ad (445 + 3 * b)) else none)) := rfl
theorem st_va {ca ad : Nat → Nat} {nv ln z : Int32} {L : List Value} (q : Nat) : gw 363 (fT ca ad (xI0 nv ln z) xJ0 L 60 0 0) ++ [(q, rfA (ca 3) 80 (fun _ => none))] = gw 364 (fT ca (adx ad 363 [q]) (xI0 nv ln z) xJ0 L 60 0 0) := by
  refine gw_app rfl (fT_ag (fun j hj => adx_l hj) (cln_b (i := 60) (by omega)) (fun b hb => by omega) (fun b hb => by omega) (fun b hb => by omega)) (fun t ht => ?_)
  have ht : t < 1 := ht
  rw [show t = 0 by omega]
  show some (q, rfA (ca 3) 80 (fun _ => none)) = some (fT ca (adx ad 363 [q]) (xI0 nv ln z) xJ0 L 60 0 0 363)
  have e : (fun _ => none) = (fun b => if b < 0 then some (adx ad 363 [q] (364 + b)) else none) := by
    funext b
    rw [if_neg (by omega)]
  rw [fT_3, show adx ad 363 [q] 363 = q from adx_r ad 363 [q] 0, ← e]
theorem st_na {ca ad : Nat → Nat} {nv ln z : Int32} {L : List Value} (q : Nat) : gw 444 (fT ca ad (xI0 nv ln z) xJ0 L 60 80 0) ++ [(q, rfA (ca 4) 3 (fun _ => none))] = gw 445 (fT ca (adx ad 444 [q]) (xI0 nv ln z) xJ0 L 60 80 0) := by
  refine gw_app rfl (fT_ag (fun j hj => adx_l hj) (cln_v (i := 80) (by omega)) (fun b hb => by omega) (fun b hb => by omega) (fun b hb => by omega)) (fun t ht => ?_)
  have ht : t < 1 := ht
  rw [show t = 0 by omega]
  show some (q, rfA (ca 4) 3 (fun _ => none)) = some (fT ca (adx ad 444 [q]) (xI0 nv ln z) xJ0 L 60 80 0 444)
  have e : (fun _ => none) = (fun b => if b < 0 then some (adx ad 444 [q] (445 + 3 * b)) else none) := by
    funext b
    rw [if_neg (by omega)]
  rw [fT_4, show adx ad 444 [q] 444 = q from adx_r ad 444 [q] 0, ← e]
theorem fT_o {ca ad : Nat → Nat} {I : mI} {J : mJ} {L L' : List Value} {ib iv im ib' iv' im' j : Nat} (h0 : L' = L ∨ j ≠ 0) (h2 : ib' = ib ∨ j ≠ 2) (h3 : iv' = iv ∨ j ≠ 363) (h4 : im' = im ∨ j ≠ 444) : fT ca ad I J L' ib' iv' im' j = fT ca ad I J L ib iv im j := by
  unfold fT
  congr 1
  by_cases e0 : j = 0
  · rw [if_pos e0, if_pos e0, h0.resolve_right (fun z => z e0)]
  rw [if_neg e0, if_neg e0]
  by_cases e2 : j = 2
  · rw [if_pos e2, if_pos e2, h2.resolve_right (fun z => z e2)]
  rw [if_neg e2, if_neg e2]
  by_cases e3 : j = 363
  · rw [if_pos e3, if_pos e3, h3.resolve_right (fun z => z e3)]
  rw [if_neg e3, if_neg e3]
  by_cases e4 : j = 444
  · rw [if_pos e4, if_pos e4, h4.resolve_right (fun z => z e4)]
  rw [if_neg e4, if_neg e4]
theorem set_0 {ca ad : Nat → Nat} {I : mI} {J : mJ} {L L' : List Value} {ib iv im n : Nat} (hn : 0 < n) : (gw n (fT ca ad I J L ib iv im)).set 0 (ad 0, .inr (5, L')) = gw n (fT ca ad I J L' ib iv im) := gw_set hn rfl (fun i _ h => fT_o (Or.inr h) (Or.inl rfl) (Or.inl rfl) (Or.inl rfl))
theorem set_2 {ca ad : Nat → Nat} {I : mI} {J : mJ} {L : List Value} {i iv im n : Nat} (hn : 2 < n) : (gw n (fT ca ad I J L i iv im)).set 2 (ad 2, rfA (ca 2) 60 (va_up (fun b => if b < i then some (ad (3 + 6 * b)) else none) i (some (ad (3 + 6 * i))))) = gw n (fT ca ad I J L (i + 1) iv im) := gw_set hn (by rw [fT_2, up_rf (o := fun b => 3 + 6 * b)]) (fun i _ h => fT_o (Or.inl rfl) (Or.inr h) (Or.inl rfl) (Or.inl rfl))
theorem set_3 {ca ad : Nat → Nat} {I : mI} {J : mJ} {L : List Value} {ib i im n : Nat} (hn : 363 < n) : (gw n (fT ca ad I J L ib i im)).set 363 (ad 363, rfA (ca 3) 80 (va_up (fun b => if b < i then some (ad (364 + b)) else none) i (some (ad (364 + i))))) = gw n (fT ca ad I J L ib (i + 1) im) := gw_set hn (by rw [fT_3, up_rf (o := fun b => 364 + b)]) (fun i _ h => fT_o (Or.inl rfl) (Or.inl rfl) (Or.inr h) (Or.inl rfl))
theorem set_4 {ca ad : Nat → Nat} {I : mI} {J : mJ} {L : List Value} {ib iv i n : Nat} (hn : 444 < n) : (gw n (fT ca ad I J L ib iv i)).set 444 (ad 444, rfA (ca 4) 3 (va_up (fun b => if b < i then some (ad (445 + 3 * b)) else none) i (some (ad (445 + 3 * i))))) = gw n (fT ca ad I J L ib iv (i + 1)) := gw_set hn (by rw [fT_4, up_rf (o := fun b => 445 + 3 * b)]) (fun i _ h => fT_o (Or.inl rfl) (Or.inl rfl) (Or.inl rfl) (Or.inr h))
/-- the tree stands -/
theorem gw_P {D : va_G} {cl : List vw_C} {n : Nat} {f g : Nat → Nat × va_E} {H : Heap} (h : va_P D cl (gw n f) H) (hfg : ∀ j, j < n → f j = g j ∨ ∃ (a : Nat) (cA : ClassId) (k : Nat) (u v : Nat → Option Nat), f j = (a, rfA cA k u) ∧ g j = (a, rfA cA k v) ∧ ∀ b, b < k → u b = v b) : va_P D cl (gw n g) H := by
  intro j x hx
  have hj : j < n := by
    have := (List.getElem?_eq_some_iff.mp hx).1
    rw [gw_len] at this
    exact this
  rw [gw_get hj] at hx
  have hx : g j = x := Option.some.inj hx
  have h0 := h j (f j) (gw_get hj)
  rcases hfg j hj with e | ⟨a, cA, k, u, v, e1, e2, e3⟩
  · rw [← hx, ← e]; exact h0
  · rw [← hx, e2]
    rw [e1] at h0
    show H[a]? = some (vp_cell cA (k, .inr (.inr (.inr (.inr v)))))
    have e : vp_cell cA (k, .inr (.inr (.inr (.inr v)))) = vp_cell cA (k, .inr (.inr (.inr (.inr u)))) := by
      rw [vp_cell_q, vp_cell_q]
      unfold arrV
      congr 2
      funext t
      show va_rf (v t.val) = va_rf (u t.val)
      rw [e3 t.val t.isLt]
    rw [e]
    exact h0
theorem gw_D {A : Nat → Prop} {n : Nat} {f g : Nat → Nat × va_E} (h : va_D A (gw n f)) (hfg : ∀ j, j < n → (f j).1 = (g j).1) : va_D A (gw n g) := by
  have key : ∀ (j : Nat) (x : Nat × va_E), (gw n g)[j]? = some x → j < n ∧ x.1 = (f j).1 := fun j x hx => by
    have hj : j < n := by
      have := (List.getElem?_eq_some_iff.mp hx).1
      rw [gw_len] at this
      exact this
    rw [gw_get hj] at hx
    have hx : g j = x := Option.some.inj hx
    exact ⟨hj, by rw [← hx]; exact (hfg j hj).symm⟩
  refine ⟨fun i j p q hi hj hpq => ?_, fun k q hk => ?_⟩
  · obtain ⟨i1, i2⟩ := key i p hi
    obtain ⟨j1, j2⟩ := key j q hj
    exact h.1 i j (f i) (f j) (gw_get i1) (gw_get j1) (by rw [← i2, ← j2]; exact hpq)
  · obtain ⟨k1, k2⟩ := key k q hk
    rw [k2]
    exact h.2 k (f k) (gw_get k1)
theorem fT_end {ca ad : Nat → Nat} {nv ln z : Int32} {a q1 q2 q3 q4 q5 q6 : Nat} (h1 : ad 1 = q1) (h2 : ad 2 = q2) (h3 : ad 363 = q3) (h4 : ad 444 = q4) (h5 : ad 454 = q5) (h6 : ad 457 = q6) : ∀ j, j < 459 → fT ca ad (xI0 nv ln z) xJ0 [.int nv, .int ln, .ref q1, .int (tE z (cN nv)), .ref q2, .int 1, .ref q3, .int 0, .ref q4, .ref q5, .ref q6] 60 80 3 j = (ad j, xmk ca ad j (xI0 nv ln z j) (xJ0 j)) ∨ ∃ (a : Nat) (cA : ClassId) (k : Nat) (u v : Nat → Option Nat), fT ca ad (xI0 nv ln z) xJ0 [.int nv, .int ln, .ref q1, .int (tE z (cN nv)), .ref q2, .int 1, .ref q3, .int 0, .ref q4, .ref q5, .ref q6] 60 80 3 j = (a, rfA cA k u) ∧ (ad j, xmk ca ad j (xI0 nv ln z j) (xJ0 j)) = (a, rfA cA k v) ∧ ∀ b, b < k → u b = v b := by
  intro j hj
  by_cases e0 : j = 0
  · subst e0
    left
    rw [fT_0, xm_F (show xk 0 = 0 from rfl), h1, h2, h3, h4, h5, h6]
    rfl
  by_cases e2 : j = 2
  · subst e2
    exact Or.inr ⟨_, _, _, _, _, fT_2, by rw [xm_BA (show xk 2 = 2 from rfl)], fun b hb => if_pos hb⟩
  by_cases e3 : j = 363
  · subst e3
    exact Or.inr ⟨_, _, _, _, _, fT_3, by rw [xm_VA (show xk 363 = 7 from rfl)], fun b hb => if_pos hb⟩
  by_cases e4 : j = 444
  · subst e4
    exact Or.inr ⟨_, _, _, _, _, fT_4, by rw [xm_NA (show xk 444 = 9 from rfl)], fun b hb => if_pos hb⟩
  exact Or.inl (fT_x e0 e2 e3 e4)

