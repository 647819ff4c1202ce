set_option maxHeartbeats 4000000 in
set_option maxRecDepth 100000 in
theorem z_values_0 {p : Program} {l : Launch} {e : Env} {s : State} {m : MethodId} {below : List Frame} {meth : Method} {c9 : Code} {H : Heap} {cells slots : Nat} {Q : State → Prop} {ls : Array Slot} {D : va_G} {b0 L : Nat} {xs : Nat → Int32} {cI cA cL : ClassId} {ad am : Nat → Nat} {K n : Nat} {x y : Nat → Nat → Int32} {o : Nat → Int64} {th : Int32} {i : Nat} (C0 : lwC p l s m c9 b0 L xs D cI cA cL ad am) (S0 : lwS s D cI cA cL ad am K n x y o th H) (hK30 : K < 2 ^ 30) (hroom : cells + 1 ≤ room_1.cells ∧ slots + 6 ≤ room_1.slots) (hi : i + 4 < L) (hl : lv_has ls 7 [(0, .ref b0), (1, .ref (ad 0)), (2, .ref (am 0)), (3, .ref (ad 46)), (4, .int (nI i))]) (c : Nat) (v : Nat) (k : Nat) (hc : c < n) (hv : v < 3) (hk : k < 2) (e1 : xs (i + 1) = nI c) (e2 : xs (i + 2) = nI v) (e3 : xs (i + 3) = nI k) (kk : ∀ (K' n' : Nat) (x' y' : Nat → Nat → Int32) (o' : Nat → Int64) (th' : Int32) (H' : Heap) (ls' : Array Slot), K' ≤ K + 216 → lwS s D cI cA cL ad am K' n' x' y' o' th' H' → lv_has ls' 7 [(0, .ref b0), (1, .ref (ad 0)), (2, .ref (am 0)), (3, .ref (ad 46)), (4, .int (nI i))] → W p l e room_1 s m #[Value.ref b0] below meth c9 H' [] (cells + 1) (slots + 6) Q (F0 m 1441 ls' [])) : W p l e room_1 s m #[Value.ref b0] below meth c9 H [] cells slots Q (F0 m 452 ls []) := by
  obtain ⟨hx, hb, hF, hK, hDo, hDm, hdis, hT, hXF, hC, hlt, hX, hbl, hL⟩ := C0
  obtain ⟨hPo, hPm, hS, hR⟩ := S0
  have hn9 : n ≤ 24 := hR.n24
  have hn : n ≤ 24 := hn9
  have hts := hF.2.2.2.2
  have hKm := hK.sub (tys' := [(cI, .int), (cA, .array .int)]) [0, 1] rfl
  have hAo : ∀ q, wA ad 47 q → s.heap.size ≤ q := fun q ⟨k, hk, eq⟩ => by rw [eq]; exact hDo.2 k hk
  have hAm : ∀ q, wA am 8 q → s.heap.size ≤ q := fun q ⟨k, hk, eq⟩ => by rw [eq]; exact hDm.2 k hk
  refine lv_aload_n hx hb dL_law_452 rfl (lv_at hl 1 rfl) ?_
  refine lv_aload_n hx hb dL_law_453 rfl (lv_at hl 0 rfl) ?_
  refine lv_iload hx hb dL_law_454 (lv_at hl 4 rfl) ?_
  refine lv_iconst (v := nI 1) hx hb dL_law_456 (by decide) ?_
  refine r_addN (r := i + 1) hx hb dL_law_457 rfl ?_
  refine r_sld hx hb hX hbl hL hS (i := i + 1) (by omega) e1 dL_law_458 ?_
  refine lv_aload_n hx hb dL_law_459 rfl (lv_at hl 0 rfl) ?_
  refine lv_iload hx hb dL_law_460 (lv_at hl 4 rfl) ?_
  refine lv_iconst (v := nI 2) hx hb dL_law_462 (by decide) ?_
  refine r_addN (r := i + 2) hx hb dL_law_463 rfl ?_
  refine r_sld hx hb hX hbl hL hS (i := i + 2) (by omega) e2 dL_law_464 ?_
  refine lv_aload_n hx hb dL_law_465 rfl (lv_at hl 0 rfl) ?_
  refine lv_iload hx hb dL_law_466 (lv_at hl 4 rfl) ?_
  refine lv_iconst (v := nI 3) hx hb dL_law_468 (by decide) ?_
  refine r_addN (r := i + 3) hx hb dL_law_469 rfl ?_
  refine r_sld hx hb hX hbl hL hS (i := i + 3) (by omega) e3 dL_law_470 ?_
  refine lv_aload_n hx hb dL_law_471 rfl (lv_at hl 3 rfl) ?_
  refine k_L (vx_runSW (As := [.ref (ad 0), .int (nI c), .int (nI v), .int (nI k), .ref (ad 46)]) (rest := []) hF (w_values_0 l D cI cA ad n x c v k cL o hc hn hv hk) (vx_cwSW 5 hts gL_law_L_values rfl rfl rfl (by decide +kernel) ⟨(Nat.le_of_ble_eq_true rfl), (Nat.le_of_ble_eq_true rfl)⟩) (lw_pre hK hDo hT hXF hC hPo hS) rfl rfl hl.1 rfl (lv_room (Nat.le_of_ble_eq_true rfl)) dL_law_472 hroom) hAo (fun H1 hP1 hz hk9 => ?_)
  have hPm := lw_keep (fun j hj ⟨k, hk, eq⟩ => hdis k j hk hj eq.symm) hPm hk9
  have hS := lw_S hAo hS hz hk9
  refine lv_istore (lv' := [(5, .int (nI 0)), (0, .ref b0), (1, .ref (ad 0)), (2, .ref (am 0)), (3, .ref (ad 46)), (4, .int (nI i))]) hx hb dL_law_475 hl (by decide) rfl (fun ls hl => ?_)
  refine lv_aload_n hx hb dL_law_477 rfl (lv_at hl 3 rfl) ?_
  refine lv_aload_n hx hb dL_law_478 rfl (lv_at hl 1 rfl) ?_
  refine lv_iload hx hb dL_law_479 (lv_at hl 5 rfl) ?_
  refine lv_iconst (v := nI 1) hx hb dL_law_481 (by decide) ?_
  refine r_addN (r := i + 1) hx hb dL_law_482 rfl ?_
  refine r_sld hx hb hX hbl hL hS (i := i + 1) (by omega) e1 dL_law_483 ?_
  refine lv_aload_n hx hb dL_law_484 rfl (lv_at hl 1 rfl) ?_
  refine lv_iload hx hb dL_law_485 (lv_at hl 5 rfl) ?_
  refine lv_iconst (v := nI 2) hx hb dL_law_487 (by decide) ?_
  refine r_addN (r := i + 2) hx hb dL_law_488 rfl ?_
  refine r_sld hx hb hX hbl hL hS (i := i + 2) (by omega) e2 dL_law_489 ?_
  refine lv_aload_n hx hb dL_law_490 rfl (lv_at hl 1 rfl) ?_
  refine lv_iload hx hb dL_law_491 (lv_at hl 5 rfl) ?_
  refine lv_iconst (v := nI 3) hx hb dL_law_493 (by decide) ?_
  refine r_addN (r := i + 3) hx hb dL_law_494 rfl ?_
  refine r_sld hx hb hX hbl hL hS (i := i + 3) (by omega) e3 dL_law_495 ?_
  refine k_M (va_runV (As := [.int (nI c), .int (nI v), .int (nI k)]) (rest := []) hF (m_values_0 l D cI cA am th n y c v k hc hn9 hv hk) (cwV 3 hts gL_law_X4_values rfl rfl rfl (by decide +kernel) ⟨(Nat.le_of_ble_eq_true rfl), (Nat.le_of_ble_eq_true rfl)⟩) (k_pre hPm hKm hDm hT (k := 0) (by decide) mF_0 rfl) rfl rfl hl.1 rfl (lv_room (Nat.le_of_ble_eq_true rfl)) dL_law_496 ⟨hroom.1, hroom.2⟩) hAm (fun H2 hPm hz hk9 => ?_)
  have hPo := lw_keep (fun j hj ⟨k, hk, eq⟩ => hdis j k hj hk eq) hP1 hk9
  have hS := lw_S hAm hS hz hk9
  refine r_topi (show _ = x (2 * v + k + 16) c from (hR.set (by omega) hv hk).symm) ?_
  refine lv_istore (lv' := [(6, .int (x (2 * v + k + 16) c)), (5, .int (nI 0)), (0, .ref b0), (1, .ref (ad 0)), (2, .ref (am 0)), (3, .ref (ad 46)), (4, .int (nI i))]) hx hb dL_law_499 hl (by decide) rfl (fun ls hl => ?_)
  refine lv_aload_n hx hb dL_law_501 rfl (lv_at hl 4 rfl) ?_
  refine k_Ri (va_runV (As := []) (rest := []) hF (c_X4_thrown l D cI cA am _ _ _) (cwV 0 hts gL_law_X4_thrown rfl rfl rfl (by decide +kernel) ⟨(Nat.le_of_ble_eq_true rfl), (Nat.le_of_ble_eq_true rfl)⟩) (k_pre hPm hKm hDm hT (k := 0) (by decide) mF_0 rfl) rfl rfl hl.1 rfl (lv_room (Nat.le_of_ble_eq_true rfl)) dL_law_502 ⟨hroom.1, hroom.2⟩) ?_
  refine lv_iload hx hb dL_law_505 (lv_at hl 1 rfl) ?_
  refine r_ceqN (tgt := 512) hx hb (by decide) (by decide) dL_law_507 (by decide) (fun _ => ?_) (fun h => absurd rfl h)
  refine lv_iload hx hb dL_law_512 (lv_at hl 1 rfl) ?_
  refine r_ifneN (a := 0) (tgt := 529) hx hb (by decide) dL_law_514 (by decide) (fun h => absurd rfl h) (fun _ => ?_)
  refine lv_aload_n hx hb dL_law_517 rfl (lv_at hl 5 rfl) ?_
  refine lv_iconst (v := nI 0) hx hb dL_law_518 (by decide) ?_
  refine va_lald hx hb hK hPo 46 2 (wl_at (show 46 < 47 by decide)) rfl (vp_in_nI (by decide) (by decide)) dL_law_519 ?_
  rw [oW_0 (w := (x (2 * v + k + 16) c).toInt64)]
  refine lv_iload hx hb dL_law_520 (lv_at hl 0 rfl) ?_
  refine lv_i2l hx hb dL_law_522 rfl ?_
  refine r_lcmpE hx hb dL_law_523 ?_
  refine r_ifeqN (a := 0) (tgt := 529) hx hb (by decide) dL_law_524 (by decide) (fun _ => ?_) (fun h => absurd rfl h)
  refine lv_goto (tgt := 1441) hx hb dL_law_529 (by decide) ?_
  exact kk _ _ _ _ _ _ _ _ (by omega) ⟨hPo, hPm, hS, hR⟩ (lv_sub hl [2, 3, 4, 5, 6] rfl)
set_option maxHeartbeats 4000000 in
set_option maxRecDepth 100000 in
theorem z_values_Ta {p : Program} {l : Launch} {e : Env} {s : State} {m : MethodId} {below : List Frame} {meth : Method} {c9 : Code} {H : Heap} {cells slots : Nat} {Q : State → Prop} {ls : Array Slot} {D : va_G} {b0 L : Nat} {xs : Nat → Int32} {cI cA cL : ClassId} {ad am : Nat → Nat} {K n : Nat} {x y : Nat → Nat → Int32} {o : Nat → Int64} {th : Int32} {i : Nat} (C0 : lwC p l s m c9 b0 L xs D cI cA cL ad am) (S0 : lwS s D cI cA cL ad am K n x y o th H) (hK30 : K < 2 ^ 30) (hroom : cells + 1 ≤ room_1.cells ∧ slots + 6 ≤ room_1.slots) (hi : i + 4 < L) (hl : lv_has ls 7 [(0, .ref b0), (1, .ref (ad 0)), (2, .ref (am 0)), (3, .ref (ad 46)), (4, .int (nI i))]) (a : Int32) (v : Int32) (k : Int32) (hca : cardB n a = false) (e1 : xs (i + 1) = a) (e2 : xs (i + 2) = v) (e3 : xs (i + 3) = k) (kk : ∀ (K' n' : Nat) (x' y' : Nat → Nat → Int32) (o' : Nat → Int64) (th' : Int32) (H' : Heap) (ls' : Array Slot), K' ≤ K + 216 → lwS s D cI cA cL ad am K' n' x' y' o' th' H' → lv_has ls' 7 [(0, .ref b0), (1, .ref (ad 0)), (2, .ref (am 0)), (3, .ref (ad 46)), (4, .int (nI i))] → W p l e room_1 s m #[Value.ref b0] below meth c9 H' [] (cells + 1) (slots + 6) Q (F0 m 1441 ls' [])) : W p l e room_1 s m #[Value.ref b0] below meth c9 H [] cells slots Q (F0 m 452 ls []) := by
  obtain ⟨hx, hb, hF, hK, hDo, hDm, hdis, hT, hXF, hC, hlt, hX, hbl, hL⟩ := C0
  obtain ⟨hPo, hPm, hS, hR⟩ := S0
  have hn9 : n ≤ 24 := hR.n24
  have hn : n ≤ 24 := hn9
  have hts := hF.2.2.2.2
  have hKm := hK.sub (tys' := [(cI, .int), (cA, .array .int)]) [0, 1] rfl
  have hAo : ∀ q, wA ad 47 q → s.heap.size ≤ q := fun q ⟨k, hk, eq⟩ => by rw [eq]; exact hDo.2 k hk
  have hAm : ∀ q, wA am 8 q → s.heap.size ≤ q := fun q ⟨k, hk, eq⟩ => by rw [eq]; exact hDm.2 k hk
  refine lv_aload_n hx hb dL_law_452 rfl (lv_at hl 1 rfl) ?_
  refine lv_aload_n hx hb dL_law_453 rfl (lv_at hl 0 rfl) ?_
  refine lv_iload hx hb dL_law_454 (lv_at hl 4 rfl) ?_
  refine lv_iconst (v := nI 1) hx hb dL_law_456 (by decide) ?_
  refine r_addN (r := i + 1) hx hb dL_law_457 rfl ?_
  refine r_sld hx hb hX hbl hL hS (i := i + 1) (by omega) e1 dL_law_458 ?_
  refine lv_aload_n hx hb dL_law_459 rfl (lv_at hl 0 rfl) ?_
  refine lv_iload hx hb dL_law_460 (lv_at hl 4 rfl) ?_
  refine lv_iconst (v := nI 2) hx hb dL_law_462 (by decide) ?_
  refine r_addN (r := i + 2) hx hb dL_law_463 rfl ?_
  refine r_sld hx hb hX hbl hL hS (i := i + 2) (by omega) e2 dL_law_464 ?_
  refine lv_aload_n hx hb dL_law_465 rfl (lv_at hl 0 rfl) ?_
  refine lv_iload hx hb dL_law_466 (lv_at hl 4 rfl) ?_
  refine lv_iconst (v := nI 3) hx hb dL_law_468 (by decide) ?_
  refine r_addN (r := i + 3) hx hb dL_law_469 rfl ?_
  refine r_sld hx hb hX hbl hL hS (i := i + 3) (by omega) e3 dL_law_470 ?_
  refine lv_aload_n hx hb dL_law_471 rfl (lv_at hl 3 rfl) ?_
  refine k_L (vx_runSW (As := [.ref (ad 0), .int a, .int v, .int k, .ref (ad 46)]) (rest := []) hF (w_values_Ta l D cI cA ad n x a v k cL o hlt hca) (vx_cwSW 5 hts gL_law_L_values rfl rfl rfl (by decide +kernel) ⟨(Nat.le_of_ble_eq_true rfl), (Nat.le_of_ble_eq_true rfl)⟩) (lw_pre hK hDo hT hXF hC hPo hS) rfl rfl hl.1 rfl (lv_room (Nat.le_of_ble_eq_true rfl)) dL_law_472 hroom) hAo (fun H1 hP1 hz hk9 => ?_)
  have hPm := lw_keep (fun j hj ⟨k, hk, eq⟩ => hdis k j hk hj eq.symm) hPm hk9
  have hS := lw_S hAo hS hz hk9
  refine lv_istore (lv' := [(5, .int (nI 1)), (0, .ref b0), (1, .ref (ad 0)), (2, .ref (am 0)), (3, .ref (ad 46)), (4, .int (nI i))]) hx hb dL_law_475 hl (by decide) rfl (fun ls hl => ?_)
  refine lv_aload_n hx hb dL_law_477 rfl (lv_at hl 3 rfl) ?_
  refine lv_aload_n hx hb dL_law_478 rfl (lv_at hl 1 rfl) ?_
  refine lv_iload hx hb dL_law_479 (lv_at hl 5 rfl) ?_
  refine lv_iconst (v := nI 1) hx hb dL_law_481 (by decide) ?_
  refine r_addN (r := i + 1) hx hb dL_law_482 rfl ?_
  refine r_sld hx hb hX hbl hL hS (i := i + 1) (by omega) e1 dL_law_483 ?_
  refine lv_aload_n hx hb dL_law_484 rfl (lv_at hl 1 rfl) ?_
  refine lv_iload hx hb dL_law_485 (lv_at hl 5 rfl) ?_
  refine lv_iconst (v := nI 2) hx hb dL_law_487 (by decide) ?_
  refine r_addN (r := i + 2) hx hb dL_law_488 rfl ?_
  refine r_sld hx hb hX hbl hL hS (i := i + 2) (by omega) e2 dL_law_489 ?_
  refine lv_aload_n hx hb dL_law_490 rfl (lv_at hl 1 rfl) ?_
  refine lv_iload hx hb dL_law_491 (lv_at hl 5 rfl) ?_
  refine lv_iconst (v := nI 3) hx hb dL_law_493 (by decide) ?_
  refine r_addN (r := i + 3) hx hb dL_law_494 rfl ?_
  refine r_sld hx hb hX hbl hL hS (i := i + 3) (by omega) e3 dL_law_495 ?_
  refine k_M (va_runV (As := [.int a, .int v, .int k]) (rest := []) hF (m_values_1 l D cI cA am th n y a v k hca hn9) (cwV 3 hts gL_law_X4_values rfl rfl rfl (by decide +kernel) ⟨(Nat.le_of_ble_eq_true rfl), (Nat.le_of_ble_eq_true rfl)⟩) (k_pre hPm hKm hDm hT (k := 0) (by decide) mF_0 rfl) rfl rfl hl.1 rfl (lv_room (Nat.le_of_ble_eq_true rfl)) dL_law_496 ⟨hroom.1, hroom.2⟩) hAm (fun H2 hPm hz hk9 => ?_)
  have hPo := lw_keep (fun j hj ⟨k, hk, eq⟩ => hdis j k hj hk eq) hP1 hk9
  have hS := lw_S hAm hS hz hk9
  refine lv_istore (lv' := [(6, .int (nI 0)), (5, .int (nI 1)), (0, .ref b0), (1, .ref (ad 0)), (2, .ref (am 0)), (3, .ref (ad 46)), (4, .int (nI i))]) hx hb dL_law_499 hl (by decide) rfl (fun ls hl => ?_)
  refine lv_aload_n hx hb dL_law_501 rfl (lv_at hl 4 rfl) ?_
  refine k_Ri (va_runV (As := []) (rest := []) hF (c_X4_thrown l D cI cA am _ _ _) (cwV 0 hts gL_law_X4_thrown rfl rfl rfl (by decide +kernel) ⟨(Nat.le_of_ble_eq_true rfl), (Nat.le_of_ble_eq_true rfl)⟩) (k_pre hPm hKm hDm hT (k := 0) (by decide) mF_0 rfl) rfl rfl hl.1 rfl (lv_room (Nat.le_of_ble_eq_true rfl)) dL_law_502 ⟨hroom.1, hroom.2⟩) ?_
  refine lv_iload hx hb dL_law_505 (lv_at hl 1 rfl) ?_
  refine r_ceqN (tgt := 512) hx hb (by decide) (by decide) dL_law_507 (by decide) (fun _ => ?_) (fun h => absurd rfl h)
  refine lv_iload hx hb dL_law_512 (lv_at hl 1 rfl) ?_
  refine r_ifneN (a := 1) (tgt := 529) hx hb (by decide) dL_law_514 (by decide) (fun _ => ?_) (fun h => absurd h (by decide))
  refine lv_goto (tgt := 1441) hx hb dL_law_529 (by decide) ?_
  exact kk _ _ _ _ _ _ _ _ (by omega) ⟨hPo, hPm, hS, hR⟩ (lv_sub hl [2, 3, 4, 5, 6] rfl)
set_option maxHeartbeats 4000000 in
set_option maxRecDepth 100000 in
theorem z_values_Tb {p : Program} {l : Launch} {e : Env} {s : State} {m : MethodId} {below : List Frame} {meth : Method} {c9 : Code} {H : Heap} {cells slots : Nat} {Q : State → Prop} {ls : Array Slot} {D : va_G} {b0 L : Nat} {xs : Nat → Int32} {cI cA cL : ClassId} {ad am : Nat → Nat} {K n : Nat} {x y : Nat → Nat → Int32} {o : Nat → Int64} {th : Int32} {i : Nat} (C0 : lwC p l s m c9 b0 L xs D cI cA cL ad am) (S0 : lwS s D cI cA cL ad am K n x y o th H) (hK30 : K < 2 ^ 30) (hroom : cells + 1 ≤ room_1.cells ∧ slots + 6 ≤ room_1.slots) (hi : i + 4 < L) (hl : lv_has ls 7 [(0, .ref b0), (1, .ref (ad 0)), (2, .ref (am 0)), (3, .ref (ad 46)), (4, .int (nI i))]) (c : Nat) (v : Int32) (k : Int32) (hc : c < n) (hbad : (verB v && kindB k) = false) (e1 : xs (i + 1) = nI c) (e2 : xs (i + 2) = v) (e3 : xs (i + 3) = k) (kk : ∀ (K' n' : Nat) (x' y' : Nat → Nat → Int32) (o' : Nat → Int64) (th' : Int32) (H' : Heap) (ls' : Array Slot), K' ≤ K + 216 → lwS s D cI cA cL ad am K' n' x' y' o' th' H' → lv_has ls' 7 [(0, .ref b0), (1, .ref (ad 0)), (2, .ref (am 0)), (3, .ref (ad 46)), (4, .int (nI i))] → W p l e room_1 s m #[Value.ref b0] below meth c9 H' [] (cells + 1) (slots + 6) Q (F0 m 1441 ls' [])) : W p l e room_1 s m #[Value.ref b0] below meth c9 H [] cells slots Q (F0 m 452 ls []) := by
  obtain ⟨hx, hb, hF, hK, hDo, hDm, hdis, hT, hXF, hC, hlt, hX, hbl, hL⟩ := C0
  obtain ⟨hPo, hPm, hS, hR⟩ := S0
  have hn9 : n ≤ 24 := hR.n24
  have hn : n ≤ 24 := hn9
  have hts := hF.2.2.2.2
  have hKm := hK.sub (tys' := [(cI, .int), (cA, .array .int)]) [0, 1] rfl
  have hAo : ∀ q, wA ad 47 q → s.heap.size ≤ q := fun q ⟨k, hk, eq⟩ => by rw [eq]; exact hDo.2 k hk
  have hAm : ∀ q, wA am 8 q → s.heap.size ≤ q := fun q ⟨k, hk, eq⟩ => by rw [eq]; exact hDm.2 k hk
  refine lv_aload_n hx hb dL_law_452 rfl (lv_at hl 1 rfl) ?_
  refine lv_aload_n hx hb dL_law_453 rfl (lv_at hl 0 rfl) ?_
  refine lv_iload hx hb dL_law_454 (lv_at hl 4 rfl) ?_
  refine lv_iconst (v := nI 1) hx hb dL_law_456 (by decide) ?_
  refine r_addN (r := i + 1) hx hb dL_law_457 rfl ?_
  refine r_sld hx hb hX hbl hL hS (i := i + 1) (by omega) e1 dL_law_458 ?_
  refine lv_aload_n hx hb dL_law_459 rfl (lv_at hl 0 rfl) ?_
  refine lv_iload hx hb dL_law_460 (lv_at hl 4 rfl) ?_
  refine lv_iconst (v := nI 2) hx hb dL_law_462 (by decide) ?_
  refine r_addN (r := i + 2) hx hb dL_law_463 rfl ?_
  refine r_sld hx hb hX hbl hL hS (i := i + 2) (by omega) e2 dL_law_464 ?_
  refine lv_aload_n hx hb dL_law_465 rfl (lv_at hl 0 rfl) ?_
  refine lv_iload hx hb dL_law_466 (lv_at hl 4 rfl) ?_
  refine lv_iconst (v := nI 3) hx hb dL_law_468 (by decide) ?_
  refine r_addN (r := i + 3) hx hb dL_law_469 rfl ?_
  refine r_sld hx hb hX hbl hL hS (i := i + 3) (by omega) e3 dL_law_470 ?_
  refine lv_aload_n hx hb dL_law_471 rfl (lv_at hl 3 rfl) ?_
  refine k_L (vx_runSW (As := [.ref (ad 0), .int (nI c), .int v, .int k, .ref (ad 46)]) (rest := []) hF (w_values_Tb l D cI cA ad n x c v k cL o hlt hc hn hbad) (vx_cwSW 5 hts gL_law_L_values rfl rfl rfl (by decide +kernel) ⟨(Nat.le_of_ble_eq_true rfl), (Nat.le_of_ble_eq_true rfl)⟩) (lw_pre hK hDo hT hXF hC hPo hS) rfl rfl hl.1 rfl (lv_room (Nat.le_of_ble_eq_true rfl)) dL_law_472 hroom) hAo (fun H1 hP1 hz hk9 => ?_)
  have hPm := lw_keep (fun j hj ⟨k, hk, eq⟩ => hdis k j hk hj eq.symm) hPm hk9
  have hS := lw_S hAo hS hz hk9
  refine lv_istore (lv' := [(5, .int (nI 2)), (0, .ref b0), (1, .ref (ad 0)), (2, .ref (am 0)), (3, .ref (ad 46)), (4, .int (nI i))]) hx hb dL_law_475 hl (by decide) rfl (fun ls hl => ?_)
  refine lv_aload_n hx hb dL_law_477 rfl (lv_at hl 3 rfl) ?_
  refine lv_aload_n hx hb dL_law_478 rfl (lv_at hl 1 rfl) ?_
  refine lv_iload hx hb dL_law_479 (lv_at hl 5 rfl) ?_
  refine lv_iconst (v := nI 1) hx hb dL_law_481 (by decide) ?_
  refine r_addN (r := i + 1) hx hb dL_law_482 rfl ?_
  refine r_sld hx hb hX hbl hL hS (i := i + 1) (by omega) e1 dL_law_483 ?_
  refine lv_aload_n hx hb dL_law_484 rfl (lv_at hl 1 rfl) ?_
  refine lv_iload hx hb dL_law_485 (lv_at hl 5 rfl) ?_
  refine lv_iconst (v := nI 2) hx hb dL_law_487 (by decide) ?_
  refine r_addN (r := i + 2) hx hb dL_law_488 rfl ?_
  refine r_sld hx hb hX hbl hL hS (i := i + 2) (by omega) e2 dL_law_489 ?_
  refine lv_aload_n hx hb dL_law_490 rfl (lv_at hl 1 rfl) ?_
  refine lv_iload hx hb dL_law_491 (lv_at hl 5 rfl) ?_
  refine lv_iconst (v := nI 3) hx hb dL_law_493 (by decide) ?_
  refine r_addN (r := i + 3) hx hb dL_law_494 rfl ?_
  refine r_sld hx hb hX hbl hL hS (i := i + 3) (by omega) e3 dL_law_495 ?_
  refine k_M (va_runV (As := [.int (nI c), .int v, .int k]) (rest := []) hF (m_values_2 l D cI cA am th n y c v k hc hn9 hbad) (cwV 3 hts gL_law_X4_values rfl rfl rfl (by decide +kernel) ⟨(Nat.le_of_ble_eq_true rfl), (Nat.le_of_ble_eq_true rfl)⟩) (k_pre hPm hKm hDm hT (k := 0) (by decide) mF_0 rfl) rfl rfl hl.1 rfl (lv_room (Nat.le_of_ble_eq_true rfl)) dL_law_496 ⟨hroom.1, hroom.2⟩) hAm (fun H2 hPm hz hk9 => ?_)
  have hPo := lw_keep (fun j hj ⟨k, hk, eq⟩ => hdis j k hj hk eq) hP1 hk9
  have hS := lw_S hAm hS hz hk9
  refine lv_istore (lv' := [(6, .int (nI 0)), (5, .int (nI 2)), (0, .ref b0), (1, .ref (ad 0)), (2, .ref (am 0)), (3, .ref (ad 46)), (4, .int (nI i))]) hx hb dL_law_499 hl (by decide) rfl (fun ls hl => ?_)
  refine lv_aload_n hx hb dL_law_501 rfl (lv_at hl 4 rfl) ?_
  refine k_Ri (va_runV (As := []) (rest := []) hF (c_X4_thrown l D cI cA am _ _ _) (cwV 0 hts gL_law_X4_thrown rfl rfl rfl (by decide +kernel) ⟨(Nat.le_of_ble_eq_true rfl), (Nat.le_of_ble_eq_true rfl)⟩) (k_pre hPm hKm hDm hT (k := 0) (by decide) mF_0 rfl) rfl rfl hl.1 rfl (lv_room (Nat.le_of_ble_eq_true rfl)) dL_law_502 ⟨hroom.1, hroom.2⟩) ?_
  refine lv_iload hx hb dL_law_505 (lv_at hl 1 rfl) ?_
  refine r_ceqN (tgt := 512) hx hb (by decide) (by decide) dL_law_507 (by decide) (fun _ => ?_) (fun h => absurd rfl h)
  refine lv_iload hx hb dL_law_512 (lv_at hl 1 rfl) ?_
  refine r_ifneN (a := 2) (tgt := 529) hx hb (by decide) dL_law_514 (by decide) (fun _ => ?_) (fun h => absurd h (by decide))
  refine lv_goto (tgt := 1441) hx hb dL_law_529 (by decide) ?_
  exact kk _ _ _ _ _ _ _ _ (by omega) ⟨hPo, hPm, hS, hR⟩ (lv_sub hl [2, 3, 4, 5, 6] rfl)
set_option maxHeartbeats 4000000 in
set_option maxRecDepth 100000 in
theorem z_nameOf_0 {p : Program} {l : Launch} {e : Env} {s : State} {m : MethodId} {below : List Frame} {meth : Method} {c9 : Code} {H : Heap} {cells slots : Nat} {Q : State → Prop} {ls : Array Slot} {D : va_G} {b0 L : Nat} {xs : Nat → Int32} {cI cA cL : ClassId} {ad am : Nat → Nat} {K n : Nat} {x y : Nat → Nat → Int32} {o : Nat → Int64} {th : Int32} {i : Nat} (C0 : lwC p l s m c9 b0 L xs D cI cA cL ad am) (S0 : lwS s D cI cA cL ad am K n x y o th H) (hK30 : K < 2 ^ 30) (hroom : cells + 1 ≤ room_1.cells ∧ slots + 6 ≤ room_1.slots) (hi : i + 4 < L) (hl : lv_has ls 7 [(0, .ref b0), (1, .ref (ad 0)), (2, .ref (am 0)), (3, .ref (ad 46)), (4, .int (nI i))]) (c : Nat) (v : Nat) (hc : c < n) (hv : v < 3) (e1 : xs (i + 1) = nI c) (e2 : xs (i + 2) = nI v) (kk : ∀ (K' n' : Nat) (x' y' : Nat → Nat → Int32) (o' : Nat → Int64) (th' : Int32) (H' : Heap) (ls' : Array Slot), K' ≤ K + 216 → lwS s D cI cA cL ad am K' n' x' y' o' th' H' → lv_has ls' 7 [(0, .ref b0), (1, .ref (ad 0)), (2, .ref (am 0)), (3, .ref (ad 46)), (4, .int (nI i))] → W p l e room_1 s m #[Value.ref b0] below meth c9 H' [] (cells + 1) (slots + 6) Q (F0 m 1441 ls' [])) : W p l e room_1 s m #[Value.ref b0] below meth c9 H [] cells slots Q (F0 m 532 ls []) := by
  obtain ⟨hx, hb, hF, hK, hDo, hDm, hdis, hT, hXF, hC, hlt, hX, hbl, hL⟩ := C0
  obtain ⟨hPo, hPm, hS, hR⟩ := S0
  have hn9 : n ≤ 24 := hR.n24
  have hn : n ≤ 24 := hn9
  have hts := hF.2.2.2.2
  have hKm := hK.sub (tys' := [(cI, .int), (cA, .array .int)]) [0, 1] rfl
  have hAo : ∀ q, wA ad 47 q → s.heap.size ≤ q := fun q ⟨k, hk, eq⟩ => by rw [eq]; exact hDo.2 k hk
  have hAm : ∀ q, wA am 8 q → s.heap.size ≤ q := fun q ⟨k, hk, eq⟩ => by rw [eq]; exact hDm.2 k hk
  refine lv_aload_n hx hb dL_law_532 rfl (lv_at hl 1 rfl) ?_
  refine lv_aload_n hx hb dL_law_533 rfl (lv_at hl 0 rfl) ?_
  refine lv_iload hx hb dL_law_534 (lv_at hl 4 rfl) ?_
  refine lv_iconst (v := nI 1) hx hb dL_law_536 (by decide) ?_
  refine r_addN (r := i + 1) hx hb dL_law_537 rfl ?_
  refine r_sld hx hb hX hbl hL hS (i := i + 1) (by omega) e1 dL_law_538 ?_
  refine lv_aload_n hx hb dL_law_539 rfl (lv_at hl 0 rfl) ?_
  refine lv_iload hx hb dL_law_540 (lv_at hl 4 rfl) ?_
  refine lv_iconst (v := nI 2) hx hb dL_law_542 (by decide) ?_
  refine r_addN (r := i + 2) hx hb dL_law_543 rfl ?_
  refine r_sld hx hb hX hbl hL hS (i := i + 2) (by omega) e2 dL_law_544 ?_
  refine lv_aload_n hx hb dL_law_545 rfl (lv_at hl 3 rfl) ?_
  refine k_L (vx_runSW (As := [.ref (ad 0), .int (nI c), .int (nI v), .ref (ad 46)]) (rest := []) hF (w_nameOf_0 l D cI cA ad n x c v cL o hc hn hv) (vx_cwSW 4 hts gL_law_L_nameOf rfl rfl rfl (by decide +kernel) ⟨(Nat.le_of_ble_eq_true rfl), (Nat.le_of_ble_eq_true rfl)⟩) (lw_pre hK hDo hT hXF hC hPo hS) rfl rfl hl.1 rfl (lv_room (Nat.le_of_ble_eq_true rfl)) dL_law_546 hroom) hAo (fun H1 hP1 hz hk9 => ?_)
  have hPm := lw_keep (fun j hj ⟨k, hk, eq⟩ => hdis k j hk hj eq.symm) hPm hk9
  have hS := lw_S hAo hS hz hk9
  refine lv_istore (lv' := [(5, .int (nI 0)), (0, .ref b0), (1, .ref (ad 0)), (2, .ref (am 0)), (3, .ref (ad 46)), (4, .int (nI i))]) hx hb dL_law_549 hl (by decide) rfl (fun ls hl => ?_)
  refine lv_aload_n hx hb dL_law_551 rfl (lv_at hl 3 rfl) ?_
  refine lv_aload_n hx hb dL_law_552 rfl (lv_at hl 1 rfl) ?_
  refine lv_iload hx hb dL_law_553 (lv_at hl 5 rfl) ?_
  refine lv_iconst (v := nI 1) hx hb dL_law_555 (by decide) ?_
  refine r_addN (r := i + 1) hx hb dL_law_556 rfl ?_
  refine r_sld hx hb hX hbl hL hS (i := i + 1) (by omega) e1 dL_law_557 ?_
  refine lv_aload_n hx hb dL_law_558 rfl (lv_at hl 1 rfl) ?_
  refine lv_iload hx hb dL_law_559 (lv_at hl 5 rfl) ?_
  refine lv_iconst (v := nI 2) hx hb dL_law_561 (by decide) ?_
  refine r_addN (r := i + 2) hx hb dL_law_562 rfl ?_
  refine r_sld hx hb hX hbl hL hS (i := i + 2) (by omega) e2 dL_law_563 ?_
  refine k_M (va_runV (As := [.int (nI c), .int (nI v)]) (rest := []) hF (m_nameOf_0 l D cI cA am th n y c v hc hn9 hv) (cwV 2 hts gL_law_X4_nameOf rfl rfl rfl (by decide +kernel) ⟨(Nat.le_of_ble_eq_true rfl), (Nat.le_of_ble_eq_true rfl)⟩) (k_pre hPm hKm hDm hT (k := 0) (by decide) mF_0 rfl) rfl rfl hl.1 rfl (lv_room (Nat.le_of_ble_eq_true rfl)) dL_law_564 ⟨hroom.1, hroom.2⟩) hAm (fun H2 hPm hz hk9 => ?_)
  have hPo := lw_keep (fun j hj ⟨k, hk, eq⟩ => hdis j k hj hk eq) hP1 hk9
  have hS := lw_S hAm hS hz hk9
  refine r_topi (show _ = x (v + 13) c from (hR.name hc hv).symm) ?_
  refine lv_istore (lv' := [(6, .int (x (v + 13) c)), (5, .int (nI 0)), (0, .ref b0), (1, .ref (ad 0)), (2, .ref (am 0)), (3, .ref (ad 46)), (4, .int (nI i))]) hx hb dL_law_567 hl (by decide) rfl (fun ls hl => ?_)
  refine lv_aload_n hx hb dL_law_569 rfl (lv_at hl 4 rfl) ?_
  refine k_Ri (va_runV (As := []) (rest := []) hF (c_X4_thrown l D cI cA am _ _ _) (cwV 0 hts gL_law_X4_thrown rfl rfl rfl (by decide +kernel) ⟨(Nat.le_of_ble_eq_true rfl), (Nat.le_of_ble_eq_true rfl)⟩) (k_pre hPm hKm hDm hT (k := 0) (by decide) mF_0 rfl) rfl rfl hl.1 rfl (lv_room (Nat.le_of_ble_eq_true rfl)) dL_law_570 ⟨hroom.1, hroom.2⟩) ?_
  refine lv_iload hx hb dL_law_573 (lv_at hl 1 rfl) ?_
  refine r_ceqN (tgt := 580) hx hb (by decide) (by decide) dL_law_575 (by decide) (fun _ => ?_) (fun h => absurd rfl h)
  refine lv_iload hx hb dL_law_580 (lv_at hl 1 rfl) ?_
  refine r_ifneN (a := 0) (tgt := 597) hx hb (by decide) dL_law_582 (by decide) (fun h => absurd rfl h) (fun _ => ?_)
  refine lv_aload_n hx hb dL_law_585 rfl (lv_at hl 5 rfl) ?_
  refine lv_iconst (v := nI 0) hx hb dL_law_586 (by decide) ?_
  refine va_lald hx hb hK hPo 46 2 (wl_at (show 46 < 47 by decide)) rfl (vp_in_nI (by decide) (by decide)) dL_law_587 ?_
  rw [oW_0 (w := (x (v + 13) c).toInt64)]
  refine lv_iload hx hb dL_law_588 (lv_at hl 0 rfl) ?_
  refine lv_i2l hx hb dL_law_590 rfl ?_
  refine r_lcmpE hx hb dL_law_591 ?_
  refine r_ifeqN (a := 0) (tgt := 597) hx hb (by decide) dL_law_592 (by decide) (fun _ => ?_) (fun h => absurd rfl h)
  refine lv_goto (tgt := 1441) hx hb dL_law_597 (by decide) ?_
  exact kk _ _ _ _ _ _ _ _ (by omega) ⟨hPo, hPm, hS, hR⟩ (lv_sub hl [2, 3, 4, 5, 6] rfl)
set_option maxHeartbeats 4000000 in
set_option maxRecDepth 100000 in
theorem z_nameOf_Ta {p : Program} {l : Launch} {e : Env} {s : State} {m : MethodId} {below : List Frame} {meth : Method} {c9 : Code} {H : Heap} {cells slots : Nat} {Q : State → Prop} {ls : Array Slot} {D : va_G} {b0 L : Nat} {xs : Nat → Int32} {cI cA cL : ClassId} {ad am : Nat → Nat} {K n : Nat} {x y : Nat → Nat → Int32} {o : Nat → Int64} {th : Int32} {i : Nat} (C0 : lwC p l s m c9 b0 L xs D cI cA cL ad am) (S0 : lwS s D cI cA cL ad am K n x y o th H) (hK30 : K < 2 ^ 30) (hroom : cells + 1 ≤ room_1.cells ∧ slots + 6 ≤ room_1.slots) (hi : i + 4 < L) (hl : lv_has ls 7 [(0, .ref b0), (1, .ref (ad 0)), (2, .ref (am 0)), (3, .ref (ad 46)), (4, .int (nI i))]) (a : Int32) (v : Int32) (hca : cardB n a = false) (e1 : xs (i + 1) = a) (e2 : xs (i + 2) = v) (kk : ∀ (K' n' : Nat) (x' y' : Nat → Nat → Int32) (o' : Nat → Int64) (th' : Int32) (H' : Heap) (ls' : Array Slot), K' ≤ K + 216 → lwS s D cI cA cL ad am K' n' x' y' o' th' H' → lv_has ls' 7 [(0, .ref b0), (1, .ref (ad 0)), (2, .ref (am 0)), (3, .ref (ad 46)), (4, .int (nI i))] → W p l e room_1 s m #[Value.ref b0] below meth c9 H' [] (cells + 1) (slots + 6) Q (F0 m 1441 ls' [])) : W p l e room_1 s m #[Value.ref b0] below meth c9 H [] cells slots Q (F0 m 532 ls []) := by
  obtain ⟨hx, hb, hF, hK, hDo, hDm, hdis, hT, hXF, hC, hlt, hX, hbl, hL⟩ := C0
  obtain ⟨hPo, hPm, hS, hR⟩ := S0
  have hn9 : n ≤ 24 := hR.n24
  have hn : n ≤ 24 := hn9
  have hts := hF.2.2.2.2
  have hKm := hK.sub (tys' := [(cI, .int), (cA, .array .int)]) [0, 1] rfl
  have hAo : ∀ q, wA ad 47 q → s.heap.size ≤ q := fun q ⟨k, hk, eq⟩ => by rw [eq]; exact hDo.2 k hk
  have hAm : ∀ q, wA am 8 q → s.heap.size ≤ q := fun q ⟨k, hk, eq⟩ => by rw [eq]; exact hDm.2 k hk
  refine lv_aload_n hx hb dL_law_532 rfl (lv_at hl 1 rfl) ?_
  refine lv_aload_n hx hb dL_law_533 rfl (lv_at hl 0 rfl) ?_
  refine lv_iload hx hb dL_law_534 (lv_at hl 4 rfl) ?_
  refine lv_iconst (v := nI 1) hx hb dL_law_536 (by decide) ?_
  refine r_addN (r := i + 1) hx hb dL_law_537 rfl ?_
  refine r_sld hx hb hX hbl hL hS (i := i + 1) (by omega) e1 dL_law_538 ?_
  refine lv_aload_n hx hb dL_law_539 rfl (lv_at hl 0 rfl) ?_
  refine lv_iload hx hb dL_law_540 (lv_at hl 4 rfl) ?_
  refine lv_iconst (v := nI 2) hx hb dL_law_542 (by decide) ?_
  refine r_addN (r := i + 2) hx hb dL_law_543 rfl ?_
  refine r_sld hx hb hX hbl hL hS (i := i + 2) (by omega) e2 dL_law_544 ?_
  refine lv_aload_n hx hb dL_law_545 rfl (lv_at hl 3 rfl) ?_
  refine k_L (vx_runSW (As := [.ref (ad 0), .int a, .int v, .ref (ad 46)]) (rest := []) hF (w_nameOf_Ta l D cI cA ad n x a v cL o hlt hca) (vx_cwSW 4 hts gL_law_L_nameOf rfl rfl rfl (by decide +kernel) ⟨(Nat.le_of_ble_eq_true rfl), (Nat.le_of_ble_eq_true rfl)⟩) (lw_pre hK hDo hT hXF hC hPo hS) rfl rfl hl.1 rfl (lv_room (Nat.le_of_ble_eq_true rfl)) dL_law_546 hroom) hAo (fun H1 hP1 hz hk9 => ?_)
  have hPm := lw_keep (fun j hj ⟨k, hk, eq⟩ => hdis k j hk hj eq.symm) hPm hk9
  have hS := lw_S hAo hS hz hk9
  refine lv_istore (lv' := [(5, .int (nI 1)), (0, .ref b0), (1, .ref (ad 0)), (2, .ref (am 0)), (3, .ref (ad 46)), (4, .int (nI i))]) hx hb dL_law_549 hl (by decide) rfl (fun ls hl => ?_)
  refine lv_aload_n hx hb dL_law_551 rfl (lv_at hl 3 rfl) ?_
  refine lv_aload_n hx hb dL_law_552 rfl (lv_at hl 1 rfl) ?_
  refine lv_iload hx hb dL_law_553 (lv_at hl 5 rfl) ?_
  refine lv_iconst (v := nI 1) hx hb dL_law_555 (by decide) ?_
  refine r_addN (r := i + 1) hx hb dL_law_556 rfl ?_
  refine r_sld hx hb hX hbl hL hS (i := i + 1) (by omega) e1 dL_law_557 ?_
  refine lv_aload_n hx hb dL_law_558 rfl (lv_at hl 1 rfl) ?_
  refine lv_iload hx hb dL_law_559 (lv_at hl 5 rfl) ?_
  refine lv_iconst (v := nI 2) hx hb dL_law_561 (by decide) ?_
  refine r_addN (r := i + 2) hx hb dL_law_562 rfl ?_
  refine r_sld hx hb hX hbl hL hS (i := i + 2) (by omega) e2 dL_law_563 ?_
  refine k_M (va_runV (As := [.int a, .int v]) (rest := []) hF (m_nameOf_1 l D cI cA am th n y a v hca hn9) (cwV 2 hts gL_law_X4_nameOf rfl rfl rfl (by decide +kernel) ⟨(Nat.le_of_ble_eq_true rfl), (Nat.le_of_ble_eq_true rfl)⟩) (k_pre hPm hKm hDm hT (k := 0) (by decide) mF_0 rfl) rfl rfl hl.1 rfl (lv_room (Nat.le_of_ble_eq_true rfl)) dL_law_564 ⟨hroom.1, hroom.2⟩) hAm (fun H2 hPm hz hk9 => ?_)
  have hPo := lw_keep (fun j hj ⟨k, hk, eq⟩ => hdis j k hj hk eq) hP1 hk9
  have hS := lw_S hAm hS hz hk9
  refine lv_istore (lv' := [(6, .int (nI 0)), (5, .int (nI 1)), (0, .ref b0), (1, .ref (ad 0)), (2, .ref (am 0)), (3, .ref (ad 46)), (4, .int (nI i))]) hx hb dL_law_567 hl (by decide) rfl (fun ls hl => ?_)
  refine lv_aload_n hx hb dL_law_569 rfl (lv_at hl 4 rfl) ?_
  refine k_Ri (va_runV (As := []) (rest := []) hF (c_X4_thrown l D cI cA am _ _ _) (cwV 0 hts gL_law_X4_thrown rfl rfl rfl (by decide +kernel) ⟨(Nat.le_of_ble_eq_true rfl), (Nat.le_of_ble_eq_true rfl)⟩) (k_pre hPm hKm hDm hT (k := 0) (by decide) mF_0 rfl) rfl rfl hl.1 rfl (lv_room (Nat.le_of_ble_eq_true rfl)) dL_law_570 ⟨hroom.1, hroom.2⟩) ?_
  refine lv_iload hx hb dL_law_573 (lv_at hl 1 rfl) ?_
  refine r_ceqN (tgt := 580) hx hb (by decide) (by decide) dL_law_575 (by decide) (fun _ => ?_) (fun h => absurd rfl h)
  refine lv_iload hx hb dL_law_580 (lv_at hl 1 rfl) ?_
  refine r_ifneN (a := 1) (tgt := 597) hx hb (by decide) dL_law_582 (by decide) (fun _ => ?_) (fun h => absurd h (by decide))
  refine lv_goto (tgt := 1441) hx hb dL_law_597 (by decide) ?_
  exact kk _ _ _ _ _ _ _ _ (by omega) ⟨hPo, hPm, hS, hR⟩ (lv_sub hl [2, 3, 4, 5, 6] rfl)
set_option maxHeartbeats 4000000 in
set_option maxRecDepth 100000 in
theorem z_nameOf_Tb {p : Program} {l : Launch} {e : Env} {s : State} {m : MethodId} {below : List Frame} {meth : Method} {c9 : Code} {H : Heap} {cells slots : Nat} {Q : State → Prop} {ls : Array Slot} {D : va_G} {b0 L : Nat} {xs : Nat → Int32} {cI cA cL : ClassId} {ad am : Nat → Nat} {K n : Nat} {x y : Nat → Nat → Int32} {o : Nat → Int64} {th : Int32} {i : Nat} (C0 : lwC p l s m c9 b0 L xs D cI cA cL ad am) (S0 : lwS s D cI cA cL ad am K n x y o th H) (hK30 : K < 2 ^ 30) (hroom : cells + 1 ≤ room_1.cells ∧ slots + 6 ≤ room_1.slots) (hi : i + 4 < L) (hl : lv_has ls 7 [(0, .ref b0), (1, .ref (ad 0)), (2, .ref (am 0)), (3, .ref (ad 46)), (4, .int (nI i))]) (c : Nat) (v : Int32) (hc : c < n) (hbad : (verB v) = false) (e1 : xs (i + 1) = nI c) (e2 : xs (i + 2) = v) (kk : ∀ (K' n' : Nat) (x' y' : Nat → Nat → Int32) (o' : Nat → Int64) (th' : Int32) (H' : Heap) (ls' : Array Slot), K' ≤ K + 216 → lwS s D cI cA cL ad am K' n' x' y' o' th' H' → lv_has ls' 7 [(0, .ref b0), (1, .ref (ad 0)), (2, .ref (am 0)), (3, .ref (ad 46)), (4, .int (nI i))] → W p l e room_1 s m #[Value.ref b0] below meth c9 H' [] (cells + 1) (slots + 6) Q (F0 m 1441 ls' [])) : W p l e room_1 s m #[Value.ref b0] below meth c9 H [] cells slots Q (F0 m 532 ls []) := by
  obtain ⟨hx, hb, hF, hK, hDo, hDm, hdis, hT, hXF, hC, hlt, hX, hbl, hL⟩ := C0
  obtain ⟨hPo, hPm, hS, hR⟩ := S0
  have hn9 : n ≤ 24 := hR.n24
  have hn : n ≤ 24 := hn9
  have hts := hF.2.2.2.2
  have hKm := hK.sub (tys' := [(cI, .int), (cA, .array .int)]) [0, 1] rfl
  have hAo : ∀ q, wA ad 47 q → s.heap.size ≤ q := fun q ⟨k, hk, eq⟩ => by rw [eq]; exact hDo.2 k hk
  have hAm : ∀ q, wA am 8 q → s.heap.size ≤ q := fun q ⟨k, hk, eq⟩ => by rw [eq]; exact hDm.2 k hk
  refine lv_aload_n hx hb dL_law_532 rfl (lv_at hl 1 rfl) ?_
  refine lv_aload_n hx hb dL_law_533 rfl (lv_at hl 0 rfl) ?_
  refine lv_iload hx hb dL_law_534 (lv_at hl 4 rfl) ?_
  refine lv_iconst (v := nI 1) hx hb dL_law_536 (by decide) ?_
  refine r_addN (r := i + 1) hx hb dL_law_537 rfl ?_
  refine r_sld hx hb hX hbl hL hS (i := i + 1) (by omega) e1 dL_law_538 ?_
  refine lv_aload_n hx hb dL_law_539 rfl (lv_at hl 0 rfl) ?_
  refine lv_iload hx hb dL_law_540 (lv_at hl 4 rfl) ?_
  refine lv_iconst (v := nI 2) hx hb dL_law_542 (by decide) ?_
  refine r_addN (r := i + 2) hx hb dL_law_543 rfl ?_
  refine r_sld hx hb hX hbl hL hS (i := i + 2) (by omega) e2 dL_law_544 ?_
  refine lv_aload_n hx hb dL_law_545 rfl (lv_at hl 3 rfl) ?_
  refine k_L (vx_runSW (As := [.ref (ad 0), .int (nI c), .int v, .ref (ad 46)]) (rest := []) hF (w_nameOf_Tb l D cI cA ad n x c v cL o hlt hc hn hbad) (vx_cwSW 4 hts gL_law_L_nameOf rfl rfl rfl (by decide +kernel) ⟨(Nat.le_of_ble_eq_true rfl), (Nat.le_of_ble_eq_true rfl)⟩) (lw_pre hK hDo hT hXF hC hPo hS) rfl rfl hl.1 rfl (lv_room (Nat.le_of_ble_eq_true rfl)) dL_law_546 hroom) hAo (fun H1 hP1 hz hk9 => ?_)
  have hPm := lw_keep (fun j hj ⟨k, hk, eq⟩ => hdis k j hk hj eq.symm) hPm hk9
  have hS := lw_S hAo hS hz hk9
  refine lv_istore (lv' := [(5, .int (nI 2)), (0, .ref b0), (1, .ref (ad 0)), (2, .ref (am 0)), (3, .ref (ad 46)), (4, .int (nI i))]) hx hb dL_law_549 hl (by decide) rfl (fun ls hl => ?_)
  refine lv_aload_n hx hb dL_law_551 rfl (lv_at hl 3 rfl) ?_
  refine lv_aload_n hx hb dL_law_552 rfl (lv_at hl 1 rfl) ?_
  refine lv_iload hx hb dL_law_553 (lv_at hl 5 rfl) ?_
  refine lv_iconst (v := nI 1) hx hb dL_law_555 (by decide) ?_
  refine r_addN (r := i + 1) hx hb dL_law_556 rfl ?_
  refine r_sld hx hb hX hbl hL hS (i := i + 1) (by omega) e1 dL_law_557 ?_
  refine lv_aload_n hx hb dL_law_558 rfl (lv_at hl 1 rfl) ?_
  refine lv_iload hx hb dL_law_559 (lv_at hl 5 rfl) ?_
  refine lv_iconst (v := nI 2) hx hb dL_law_561 (by decide) ?_
  refine r_addN (r := i + 2) hx hb dL_law_562 rfl ?_
  refine r_sld hx hb hX hbl hL hS (i := i + 2) (by omega) e2 dL_law_563 ?_
  refine k_M (va_runV (As := [.int (nI c), .int v]) (rest := []) hF (m_nameOf_2 l D cI cA am th n y c v hc hn9 hbad) (cwV 2 hts gL_law_X4_nameOf rfl rfl rfl (by decide +kernel) ⟨(Nat.le_of_ble_eq_true rfl), (Nat.le_of_ble_eq_true rfl)⟩) (k_pre hPm hKm hDm hT (k := 0) (by decide) mF_0 rfl) rfl rfl hl.1 rfl (lv_room (Nat.le_of_ble_eq_true rfl)) dL_law_564 ⟨hroom.1, hroom.2⟩) hAm (fun H2 hPm hz hk9 => ?_)
  have hPo := lw_keep (fun j hj ⟨k, hk, eq⟩ => hdis j k hj hk eq) hP1 hk9
  have hS := lw_S hAm hS hz hk9
  refine lv_istore (lv' := [(6, .int (nI 0)), (5, .int (nI 2)), (0, .ref b0), (1, .ref (ad 0)), (2, .ref (am 0)), (3, .ref (ad 46)), (4, .int (nI i))]) hx hb dL_law_567 hl (by decide) rfl (fun ls hl => ?_)
  refine lv_aload_n hx hb dL_law_569 rfl (lv_at hl 4 rfl) ?_
  refine k_Ri (va_runV (As := []) (rest := []) hF (c_X4_thrown l D cI cA am _ _ _) (cwV 0 hts gL_law_X4_thrown rfl rfl rfl (by decide +kernel) ⟨(Nat.le_of_ble_eq_true rfl), (Nat.le_of_ble_eq_true rfl)⟩) (k_pre hPm hKm hDm hT (k := 0) (by decide) mF_0 rfl) rfl rfl hl.1 rfl (lv_room (Nat.le_of_ble_eq_true rfl)) dL_law_570 ⟨hroom.1, hroom.2⟩) ?_
  refine lv_iload hx hb dL_law_573 (lv_at hl 1 rfl) ?_
  refine r_ceqN (tgt := 580) hx hb (by decide) (by decide) dL_law_575 (by decide) (fun _ => ?_) (fun h => absurd rfl h)
  refine lv_iload hx hb dL_law_580 (lv_at hl 1 rfl) ?_
  refine r_ifneN (a := 2) (tgt := 597) hx hb (by decide) dL_law_582 (by decide) (fun _ => ?_) (fun h => absurd h (by decide))
  refine lv_goto (tgt := 1441) hx hb dL_law_597 (by decide) ?_
  exact kk _ _ _ _ _ _ _ _ (by omega) ⟨hPo, hPm, hS, hR⟩ (lv_sub hl [2, 3, 4, 5, 6] rfl)
set_option maxHeartbeats 4000000 in
set_option maxRecDepth 100000 in
theorem z_merged_0 {p : Program} {l : Launch} {e : Env} {s : State} {m : MethodId} {below : List Frame} {meth : Method} {c9 : Code} {H : Heap} {cells slots : Nat} {Q : State → Prop} {ls : Array Slot} {D : va_G} {b0 L : Nat} {xs : Nat → Int32} {cI cA cL : ClassId} {ad am : Nat → Nat} {K n : Nat} {x y : Nat → Nat → Int32} {o : Nat → Int64} {th : Int32} {i : Nat} (C0 : lwC p l s m c9 b0 L xs D cI cA cL ad am) (S0 : lwS s D cI cA cL ad am K n x y o th H) (hK30 : K < 2 ^ 30) (hroom : cells + 1 ≤ room_1.cells ∧ slots + 6 ≤ room_1.slots) (hi : i + 4 < L) (hl : lv_has ls 7 [(0, .ref b0), (1, .ref (ad 0)), (2, .ref (am 0)), (3, .ref (ad 46)), (4, .int (nI i))]) (c : Nat) (k : Nat) (hc : c < n) (hk : k < 2) (e1 : xs (i + 1) = nI c) (e2 : xs (i + 2) = nI k) (kk : ∀ (K' n' : Nat) (x' y' : Nat → Nat → Int32) (o' : Nat → Int64) (th' : Int32) (H' : Heap) (ls' : Array Slot), K' ≤ K + 216 → lwS s D cI cA cL ad am K' n' x' y' o' th' H' → lv_has ls' 7 [(0, .ref b0), (1, .ref (ad 0)), (2, .ref (am 0)), (3, .ref (ad 46)), (4, .int (nI i))] → W p l e room_1 s m #[Value.ref b0] below meth c9 H' [] (cells + 1) (slots + 6) Q (F0 m 1441 ls' [])) : W p l e room_1 s m #[Value.ref b0] below meth c9 H [] cells slots Q (F0 m 600 ls []) := by
  obtain ⟨hx, hb, hF, hK, hDo, hDm, hdis, hT, hXF, hC, hlt, hX, hbl, hL⟩ := C0
  obtain ⟨hPo, hPm, hS, hR⟩ := S0
  have hn9 : n ≤ 24 := hR.n24
  have hn : n ≤ 24 := hn9
  have hts := hF.2.2.2.2
  have hKm := hK.sub (tys' := [(cI, .int), (cA, .array .int)]) [0, 1] rfl
  have hAo : ∀ q, wA ad 47 q → s.heap.size ≤ q := fun q ⟨k, hk, eq⟩ => by rw [eq]; exact hDo.2 k hk
  have hAm : ∀ q, wA am 8 q → s.heap.size ≤ q := fun q ⟨k, hk, eq⟩ => by rw [eq]; exact hDm.2 k hk
  refine lv_aload_n hx hb dL_law_600 rfl (lv_at hl 1 rfl) ?_
  refine lv_aload_n hx hb dL_law_601 rfl (lv_at hl 0 rfl) ?_
  refine lv_iload hx hb dL_law_602 (lv_at hl 4 rfl) ?_
  refine lv_iconst (v := nI 1) hx hb dL_law_604 (by decide) ?_
  refine r_addN (r := i + 1) hx hb dL_law_605 rfl ?_
  refine r_sld hx hb hX hbl hL hS (i := i + 1) (by omega) e1 dL_law_606 ?_
  refine lv_aload_n hx hb dL_law_607 rfl (lv_at hl 0 rfl) ?_
  refine lv_iload hx hb dL_law_608 (lv_at hl 4 rfl) ?_
  refine lv_iconst (v := nI 2) hx hb dL_law_610 (by decide) ?_
  refine r_addN (r := i + 2) hx hb dL_law_611 rfl ?_
  refine r_sld hx hb hX hbl hL hS (i := i + 2) (by omega) e2 dL_law_612 ?_
  refine lv_aload_n hx hb dL_law_613 rfl (lv_at hl 3 rfl) ?_
  refine k_L (vx_runSW (As := [.ref (ad 0), .int (nI c), .int (nI k), .ref (ad 46)]) (rest := []) hF (w_merged_0 l D cI cA ad n x c k cL o hc hn hk) (vx_cwSW 4 hts gL_law_L_merged rfl rfl rfl (by decide +kernel) ⟨(Nat.le_of_ble_eq_true rfl), (Nat.le_of_ble_eq_true rfl)⟩) (lw_pre hK hDo hT hXF hC hPo hS) rfl rfl hl.1 rfl (lv_room (Nat.le_of_ble_eq_true rfl)) dL_law_614 hroom) hAo (fun H1 hP1 hz hk9 => ?_)
  have hPm := lw_keep (fun j hj ⟨k, hk, eq⟩ => hdis k j hk hj eq.symm) hPm hk9
  have hS := lw_S hAo hS hz hk9
  refine lv_istore (lv' := [(5, .int (nI 0)), (0, .ref b0), (1, .ref (ad 0)), (2, .ref (am 0)), (3, .ref (ad 46)), (4, .int (nI i))]) hx hb dL_law_617 hl (by decide) rfl (fun ls hl => ?_)
  refine lv_aload_n hx hb dL_law_619 rfl (lv_at hl 3 rfl) ?_
  refine lv_aload_n hx hb dL_law_620 rfl (lv_at hl 1 rfl) ?_
  refine lv_iload hx hb dL_law_621 (lv_at hl 5 rfl) ?_
  refine lv_iconst (v := nI 1) hx hb dL_law_623 (by decide) ?_
  refine r_addN (r := i + 1) hx hb dL_law_624 rfl ?_
  refine r_sld hx hb hX hbl hL hS (i := i + 1) (by omega) e1 dL_law_625 ?_
  refine lv_aload_n hx hb dL_law_626 rfl (lv_at hl 1 rfl) ?_
  refine lv_iload hx hb dL_law_627 (lv_at hl 5 rfl) ?_
  refine lv_iconst (v := nI 2) hx hb dL_law_629 (by decide) ?_
  refine r_addN (r := i + 2) hx hb dL_law_630 rfl ?_
  refine r_sld hx hb hX hbl hL hS (i := i + 2) (by omega) e2 dL_law_631 ?_
  refine k_M (va_runV (As := [.int (nI c), .int (nI k)]) (rest := []) hF (m_merged_0 l D cI cA am th n y c k hc hn9 hk) (cwV 2 hts gL_law_X4_merged rfl rfl rfl (by decide +kernel) ⟨(Nat.le_of_ble_eq_true rfl), (Nat.le_of_ble_eq_true rfl)⟩) (k_pre hPm hKm hDm hT (k := 0) (by decide) mF_0 rfl) rfl rfl hl.1 rfl (lv_room (Nat.le_of_ble_eq_true rfl)) dL_law_632 ⟨hroom.1, hroom.2⟩) hAm (fun H2 hPm hz hk9 => ?_)
  have hPo := lw_keep (fun j hj ⟨k, hk, eq⟩ => hdis j k hj hk eq) hP1 hk9
  have hS := lw_S hAm hS hz hk9
  refine r_topi (show _ = cSt x c k from (hR.stE (by omega) hk).1.symm) ?_
  refine lv_istore (lv' := [(6, .int (cSt x c k)), (5, .int (nI 0)), (0, .ref b0), (1, .ref (ad 0)), (2, .ref (am 0)), (3, .ref (ad 46)), (4, .int (nI i))]) hx hb dL_law_635 hl (by decide) rfl (fun ls hl => ?_)
  refine lv_aload_n hx hb dL_law_637 rfl (lv_at hl 4 rfl) ?_
  refine k_Ri (va_runV (As := []) (rest := []) hF (c_X4_thrown l D cI cA am _ _ _) (cwV 0 hts gL_law_X4_thrown rfl rfl rfl (by decide +kernel) ⟨(Nat.le_of_ble_eq_true rfl), (Nat.le_of_ble_eq_true rfl)⟩) (k_pre hPm hKm hDm hT (k := 0) (by decide) mF_0 rfl) rfl rfl hl.1 rfl (lv_room (Nat.le_of_ble_eq_true rfl)) dL_law_638 ⟨hroom.1, hroom.2⟩) ?_
  refine lv_iload hx hb dL_law_641 (lv_at hl 1 rfl) ?_
  refine r_ceqN (tgt := 648) hx hb (by decide) (by decide) dL_law_643 (by decide) (fun _ => ?_) (fun h => absurd rfl h)
  refine lv_iload hx hb dL_law_648 (lv_at hl 1 rfl) ?_
  refine r_ifneN (a := 0) (tgt := 665) hx hb (by decide) dL_law_650 (by decide) (fun h => absurd rfl h) (fun _ => ?_)
  refine lv_aload_n hx hb dL_law_653 rfl (lv_at hl 5 rfl) ?_
  refine lv_iconst (v := nI 0) hx hb dL_law_654 (by decide) ?_
  refine va_lald hx hb hK hPo 46 2 (wl_at (show 46 < 47 by decide)) rfl (vp_in_nI (by decide) (by decide)) dL_law_655 ?_
  rw [oW_0 (w := (cSt x c k).toInt64)]
  refine lv_iload hx hb dL_law_656 (lv_at hl 0 rfl) ?_
  refine lv_i2l hx hb dL_law_658 rfl ?_
  refine r_lcmpE hx hb dL_law_659 ?_
  refine r_ifeqN (a := 0) (tgt := 665) hx hb (by decide) dL_law_660 (by decide) (fun _ => ?_) (fun h => absurd rfl h)
  refine lv_goto (tgt := 1441) hx hb dL_law_665 (by decide) ?_
  exact kk _ _ _ _ _ _ _ _ (by omega) ⟨hPo, hPm, hS, hR⟩ (lv_sub hl [2, 3, 4, 5, 6] rfl)
set_option maxHeartbeats 4000000 in
set_option maxRecDepth 100000 in
theorem z_merged_Ta {p : Program} {l : Launch} {e : Env} {s : State} {m : MethodId} {below : List Frame} {meth : Method} {c9 : Code} {H : Heap} {cells slots : Nat} {Q : State → Prop} {ls : Array Slot} {D : va_G} {b0 L : Nat} {xs : Nat → Int32} {cI cA cL : ClassId} {ad am : Nat → Nat} {K n : Nat} {x y : Nat → Nat → Int32} {o : Nat → Int64} {th : Int32} {i : Nat} (C0 : lwC p l s m c9 b0 L xs D cI cA cL ad am) (S0 : lwS s D cI cA cL ad am K n x y o th H) (hK30 : K < 2 ^ 30) (hroom : cells + 1 ≤ room_1.cells ∧ slots + 6 ≤ room_1.slots) (hi : i + 4 < L) (hl : lv_has ls 7 [(0, .ref b0), (1, .ref (ad 0)), (2, .ref (am 0)), (3, .ref (ad 46)), (4, .int (nI i))]) (a : Int32) (k : Int32) (hca : cardB n a = false) (e1 : xs (i + 1) = a) (e2 : xs (i + 2) = k) (kk : ∀ (K' n' : Nat) (x' y' : Nat → Nat → Int32) (o' : Nat → Int64) (th' : Int32) (H' : Heap) (ls' : Array Slot), K' ≤ K + 216 → lwS s D cI cA cL ad am K' n' x' y' o' th' H' → lv_has ls' 7 [(0, .ref b0), (1, .ref (ad 0)), (2, .ref (am 0)), (3, .ref (ad 46)), (4, .int (nI i))] → W p l e room_1 s m #[Value.ref b0] below meth c9 H' [] (cells + 1) (slots + 6) Q (F0 m 1441 ls' [])) : W p l e room_1 s m #[Value.ref b0] below meth c9 H [] cells slots Q (F0 m 600 ls []) := by
  obtain ⟨hx, hb, hF, hK, hDo, hDm, hdis, hT, hXF, hC, hlt, hX, hbl, hL⟩ := C0
  obtain ⟨hPo, hPm, hS, hR⟩ := S0
  have hn9 : n ≤ 24 := hR.n24
  have hn : n ≤ 24 := hn9
  have hts := hF.2.2.2.2
  have hKm := hK.sub (tys' := [(cI, .int), (cA, .array .int)]) [0, 1] rfl
  have hAo : ∀ q, wA ad 47 q → s.heap.size ≤ q := fun q ⟨k, hk, eq⟩ => by rw [eq]; exact hDo.2 k hk
  have hAm : ∀ q, wA am 8 q → s.heap.size ≤ q := fun q ⟨k, hk, eq⟩ => by rw [eq]; exact hDm.2 k hk
  refine lv_aload_n hx hb dL_law_600 rfl (lv_at hl 1 rfl) ?_
  refine lv_aload_n hx hb dL_law_601 rfl (lv_at hl 0 rfl) ?_
  refine lv_iload hx hb dL_law_602 (lv_at hl 4 rfl) ?_
  refine lv_iconst (v := nI 1) hx hb dL_law_604 (by decide) ?_
  refine r_addN (r := i + 1) hx hb dL_law_605 rfl ?_
  refine r_sld hx hb hX hbl hL hS (i := i + 1) (by omega) e1 dL_law_606 ?_
  refine lv_aload_n hx hb dL_law_607 rfl (lv_at hl 0 rfl) ?_
  refine lv_iload hx hb dL_law_608 (lv_at hl 4 rfl) ?_
  refine lv_iconst (v := nI 2) hx hb dL_law_610 (by decide) ?_
  refine r_addN (r := i + 2) hx hb dL_law_611 rfl ?_
  refine r_sld hx hb hX hbl hL hS (i := i + 2) (by omega) e2 dL_law_612 ?_
  refine lv_aload_n hx hb dL_law_613 rfl (lv_at hl 3 rfl) ?_
  refine k_L (vx_runSW (As := [.ref (ad 0), .int a, .int k, .ref (ad 46)]) (rest := []) hF (w_merged_Ta l D cI cA ad n x a k cL o hlt hca) (vx_cwSW 4 hts gL_law_L_merged rfl rfl rfl (by decide +kernel) ⟨(Nat.le_of_ble_eq_true rfl), (Nat.le_of_ble_eq_true rfl)⟩) (lw_pre hK hDo hT hXF hC hPo hS) rfl rfl hl.1 rfl (lv_room (Nat.le_of_ble_eq_true rfl)) dL_law_614 hroom) hAo (fun H1 hP1 hz hk9 => ?_)
  have hPm := lw_keep (fun j hj ⟨k, hk, eq⟩ => hdis k j hk hj eq.symm) hPm hk9
  have hS := lw_S hAo hS hz hk9
  refine lv_istore (lv' := [(5, .int (nI 1)), (0, .ref b0), (1, .ref (ad 0)), (2, .ref (am 0)), (3, .ref (ad 46)), (4, .int (nI i))]) hx hb dL_law_617 hl (by decide) rfl (fun ls hl => ?_)
  refine lv_aload_n hx hb dL_law_619 rfl (lv_at hl 3 rfl) ?_
  refine lv_aload_n hx hb dL_law_620 rfl (lv_at hl 1 rfl) ?_
  refine lv_iload hx hb dL_law_621 (lv_at hl 5 rfl) ?_
  refine lv_iconst (v := nI 1) hx hb dL_law_623 (by decide) ?_
  refine r_addN (r := i + 1) hx hb dL_law_624 rfl ?_
  refine r_sld hx hb hX hbl hL hS (i := i + 1) (by omega) e1 dL_law_625 ?_
  refine lv_aload_n hx hb dL_law_626 rfl (lv_at hl 1 rfl) ?_
  refine lv_iload hx hb dL_law_627 (lv_at hl 5 rfl) ?_
  refine lv_iconst (v := nI 2) hx hb dL_law_629 (by decide) ?_
  refine r_addN (r := i + 2) hx hb dL_law_630 rfl ?_
  refine r_sld hx hb hX hbl hL hS (i := i + 2) (by omega) e2 dL_law_631 ?_
  refine k_M (va_runV (As := [.int a, .int k]) (rest := []) hF (m_merged_1 l D cI cA am th n y a k hca hn9) (cwV 2 hts gL_law_X4_merged rfl rfl rfl (by decide +kernel) ⟨(Nat.le_of_ble_eq_true rfl), (Nat.le_of_ble_eq_true rfl)⟩) (k_pre hPm hKm hDm hT (k := 0) (by decide) mF_0 rfl) rfl rfl hl.1 rfl (lv_room (Nat.le_of_ble_eq_true rfl)) dL_law_632 ⟨hroom.1, hroom.2⟩) hAm (fun H2 hPm hz hk9 => ?_)
  have hPo := lw_keep (fun j hj ⟨k, hk, eq⟩ => hdis j k hj hk eq) hP1 hk9
  have hS := lw_S hAm hS hz hk9
  refine lv_istore (lv' := [(6, .int (nI 0)), (5, .int (nI 1)), (0, .ref b0), (1, .ref (ad 0)), (2, .ref (am 0)), (3, .ref (ad 46)), (4, .int (nI i))]) hx hb dL_law_635 hl (by decide) rfl (fun ls hl => ?_)
  refine lv_aload_n hx hb dL_law_637 rfl (lv_at hl 4 rfl) ?_
  refine k_Ri (va_runV (As := []) (rest := []) hF (c_X4_thrown l D cI cA am _ _ _) (cwV 0 hts gL_law_X4_thrown rfl rfl rfl (by decide +kernel) ⟨(Nat.le_of_ble_eq_true rfl), (Nat.le_of_ble_eq_true rfl)⟩) (k_pre hPm hKm hDm hT (k := 0) (by decide) mF_0 rfl) rfl rfl hl.1 rfl (lv_room (Nat.le_of_ble_eq_true rfl)) dL_law_638 ⟨hroom.1, hroom.2⟩) ?_
  refine lv_iload hx hb dL_law_641 (lv_at hl 1 rfl) ?_
  refine r_ceqN (tgt := 648) hx hb (by decide) (by decide) dL_law_643 (by decide) (fun _ => ?_) (fun h => absurd rfl h)
  refine lv_iload hx hb dL_law_648 (lv_at hl 1 rfl) ?_
  refine r_ifneN (a := 1) (tgt := 665) hx hb (by decide) dL_law_650 (by decide) (fun _ => ?_) (fun h => absurd h (by decide))
  refine lv_goto (tgt := 1441) hx hb dL_law_665 (by decide) ?_
  exact kk _ _ _ _ _ _ _ _ (by omega) ⟨hPo, hPm, hS, hR⟩ (lv_sub hl [2, 3, 4, 5, 6] rfl)
set_option maxHeartbeats 4000000 in
set_option maxRecDepth 100000 in
theorem z_merged_Tb {p : Program} {l : Launch} {e : Env} {s : State} {m : MethodId} {below : List Frame} {meth : Method} {c9 : Code} {H : Heap} {cells slots : Nat} {Q : State → Prop} {ls : Array Slot} {D : va_G} {b0 L : Nat} {xs : Nat → Int32} {cI cA cL : ClassId} {ad am : Nat → Nat} {K n : Nat} {x y : Nat → Nat → Int32} {o : Nat → Int64} {th : Int32} {i : Nat} (C0 : lwC p l s m c9 b0 L xs D cI cA cL ad am) (S0 : lwS s D cI cA cL ad am K n x y o th H) (hK30 : K < 2 ^ 30) (hroom : cells + 1 ≤ room_1.cells ∧ slots + 6 ≤ room_1.slots) (hi : i + 4 < L) (hl : lv_has ls 7 [(0, .ref b0), (1, .ref (ad 0)), (2, .ref (am 0)), (3, .ref (ad 46)), (4, .int (nI i))]) (c : Nat) (k : Int32) (hc : c < n) (hbad : (kindB k) = false) (e1 : xs (i + 1) = nI c) (e2 : xs (i + 2) = k) (kk : ∀ (K' n' : Nat) (x' y' : Nat → Nat → Int32) (o' : Nat → Int64) (th' : Int32) (H' : Heap) (ls' : Array Slot), K' ≤ K + 216 → lwS s D cI cA cL ad am K' n' x' y' o' th' H' → lv_has ls' 7 [(0, .ref b0), (1, .ref (ad 0)), (2, .ref (am 0)), (3, .ref (ad 46)), (4, .int (nI i))] → W p l e room_1 s m #[Value.ref b0] below meth c9 H' [] (cells + 1) (slots + 6) Q (F0 m 1441 ls' [])) : W p l e room_1 s m #[Value.ref b0] below meth c9 H [] cells slots Q (F0 m 600 ls []) := by
  obtain ⟨hx, hb, hF, hK, hDo, hDm, hdis, hT, hXF, hC, hlt, hX, hbl, hL⟩ := C0
  obtain ⟨hPo, hPm, hS, hR⟩ := S0
  have hn9 : n ≤ 24 := hR.n24
  have hn : n ≤ 24 := hn9
  have hts := hF.2.2.2.2
  have hKm := hK.sub (tys' := [(cI, .int), (cA, .array .int)]) [0, 1] rfl
  have hAo : ∀ q, wA ad 47 q → s.heap.size ≤ q := fun q ⟨k, hk, eq⟩ => by rw [eq]; exact hDo.2 k hk
  have hAm : ∀ q, wA am 8 q → s.heap.size ≤ q := fun q ⟨k, hk, eq⟩ => by rw [eq]; exact hDm.2 k hk
  refine lv_aload_n hx hb dL_law_600 rfl (lv_at hl 1 rfl) ?_
  refine lv_aload_n hx hb dL_law_601 rfl (lv_at hl 0 rfl) ?_
  refine lv_iload hx hb dL_law_602 (lv_at hl 4 rfl) ?_
  refine lv_iconst (v := nI 1) hx hb dL_law_604 (by decide) ?_
  refine r_addN (r := i + 1) hx hb dL_law_605 rfl ?_
  refine r_sld hx hb hX hbl hL hS (i := i + 1) (by omega) e1 dL_law_606 ?_
  refine lv_aload_n hx hb dL_law_607 rfl (lv_at hl 0 rfl) ?_
  refine lv_iload hx hb dL_law_608 (lv_at hl 4 rfl) ?_
  refine lv_iconst (v := nI 2) hx hb dL_law_610 (by decide) ?_
  refine r_addN (r := i + 2) hx hb dL_law_611 rfl ?_
  refine r_sld hx hb hX hbl hL hS (i := i + 2) (by omega) e2 dL_law_612 ?_
  refine lv_aload_n hx hb dL_law_613 rfl (lv_at hl 3 rfl) ?_
  refine k_L (vx_runSW (As := [.ref (ad 0), .int (nI c), .int k, .ref (ad 46)]) (rest := []) hF (w_merged_Tb l D cI cA ad n x c k cL o hlt hc hn hbad) (vx_cwSW 4 hts gL_law_L_merged rfl rfl rfl (by decide +kernel) ⟨(Nat.le_of_ble_eq_true rfl), (Nat.le_of_ble_eq_true rfl)⟩) (lw_pre hK hDo hT hXF hC hPo hS) rfl rfl hl.1 rfl (lv_room (Nat.le_of_ble_eq_true rfl)) dL_law_614 hroom) hAo (fun H1 hP1 hz hk9 => ?_)
  have hPm := lw_keep (fun j hj ⟨k, hk, eq⟩ => hdis k j hk hj eq.symm) hPm hk9
  have hS := lw_S hAo hS hz hk9
  refine lv_istore (lv' := [(5, .int (nI 2)), (0, .ref b0), (1, .ref (ad 0)), (2, .ref (am 0)), (3, .ref (ad 46)), (4, .int (nI i))]) hx hb dL_law_617 hl (by decide) rfl (fun ls hl => ?_)
  refine lv_aload_n hx hb dL_law_619 rfl (lv_at hl 3 rfl) ?_
  refine lv_aload_n hx hb dL_law_620 rfl (lv_at hl 1 rfl) ?_
  refine lv_iload hx hb dL_law_621 (lv_at hl 5 rfl) ?_
  refine lv_iconst (v := nI 1) hx hb dL_law_623 (by decide) ?_
  refine r_addN (r := i + 1) hx hb dL_law_624 rfl ?_
  refine r_sld hx hb hX hbl hL hS (i := i + 1) (by omega) e1 dL_law_625 ?_
  refine lv_aload_n hx hb dL_law_626 rfl (lv_at hl 1 rfl) ?_
  refine lv_iload hx hb dL_law_627 (lv_at hl 5 rfl) ?_
  refine lv_iconst (v := nI 2) hx hb dL_law_629 (by decide) ?_
  refine r_addN (r := i + 2) hx hb dL_law_630 rfl ?_
  refine r_sld hx hb hX hbl hL hS (i := i + 2) (by omega) e2 dL_law_631 ?_
  refine k_M (va_runV (As := [.int (nI c), .int k]) (rest := []) hF (m_merged_2 l D cI cA am th n y c k hc hn9 hbad) (cwV 2 hts gL_law_X4_merged rfl rfl rfl (by decide +kernel) ⟨(Nat.le_of_ble_eq_true rfl), (Nat.le_of_ble_eq_true rfl)⟩) (k_pre hPm hKm hDm hT (k := 0) (by decide) mF_0 rfl) rfl rfl hl.1 rfl (lv_room (Nat.le_of_ble_eq_true rfl)) dL_law_632 ⟨hroom.1, hroom.2⟩) hAm (fun H2 hPm hz hk9 => ?_)
  have hPo := lw_keep (fun j hj ⟨k, hk, eq⟩ => hdis j k hj hk eq) hP1 hk9
  have hS := lw_S hAm hS hz hk9
  refine lv_istore (lv' := [(6, .int (nI 0)), (5, .int (nI 2)), (0, .ref b0), (1, .ref (ad 0)), (2, .ref (am 0)), (3, .ref (ad 46)), (4, .int (nI i))]) hx hb dL_law_635 hl (by decide) rfl (fun ls hl => ?_)
  refine lv_aload_n hx hb dL_law_637 rfl (lv_at hl 4 rfl) ?_
  refine k_Ri (va_runV (As := []) (rest := []) hF (c_X4_thrown l D cI cA am _ _ _) (cwV 0 hts gL_law_X4_thrown rfl rfl rfl (by decide +kernel) ⟨(Nat.le_of_ble_eq_true rfl), (Nat.le_of_ble_eq_true rfl)⟩) (k_pre hPm hKm hDm hT (k := 0) (by decide) mF_0 rfl) rfl rfl hl.1 rfl (lv_room (Nat.le_of_ble_eq_true rfl)) dL_law_638 ⟨hroom.1, hroom.2⟩) ?_
  refine lv_iload hx hb dL_law_641 (lv_at hl 1 rfl) ?_
  refine r_ceqN (tgt := 648) hx hb (by decide) (by decide) dL_law_643 (by decide) (fun _ => ?_) (fun h => absurd rfl h)
  refine lv_iload hx hb dL_law_648 (lv_at hl 1 rfl) ?_
  refine r_ifneN (a := 2) (tgt := 665) hx hb (by decide) dL_law_650 (by decide) (fun _ => ?_) (fun h => absurd h (by decide))
  refine lv_goto (tgt := 1441) hx hb dL_law_665 (by decide) ?_
  exact kk _ _ _ _ _ _ _ _ (by omega) ⟨hPo, hPm, hS, hR⟩ (lv_sub hl [2, 3, 4, 5, 6] rfl)
set_option maxHeartbeats 4000000 in
set_option maxRecDepth 100000 in
theorem z_mergedByValues_0 {p : Program} {l : Launch} {e : Env} {s : State} {m : MethodId} {below : List Frame} {meth : Method} {c9 : Code} {H : Heap} {cells slots : Nat} {Q : State → Prop} {ls : Array Slot} {D : va_G} {b0 L : Nat} {xs : Nat → Int32} {cI cA cL : ClassId} {ad am : Nat → Nat} {K n : Nat} {x y : Nat → Nat → Int32} {o : Nat → Int64} {th : Int32} {i : Nat} (C0 : lwC p l s m c9 b0 L xs D cI cA cL ad am) (S0 : lwS s D cI cA cL ad am K n x y o th H) (hK30 : K < 2 ^ 30) (hroom : cells + 1 ≤ room_1.cells ∧ slots + 6 ≤ room_1.slots) (hi : i + 4 < L) (hl : lv_has ls 7 [(0, .ref b0), (1, .ref (ad 0)), (2, .ref (am 0)), (3, .ref (ad 46)), (4, .int (nI i))]) (c : Nat) (k : Nat) (hc : c < n) (hk : k < 2) (e1 : xs (i + 1) = nI c) (e2 : xs (i + 2) = nI k) (kk : ∀ (K' n' : Nat) (x' y' : Nat → Nat → Int32) (o' : Nat → Int64) (th' : Int32) (H' : Heap) (ls' : Array Slot), K' ≤ K + 216 → lwS s D cI cA cL ad am K' n' x' y' o' th' H' → lv_has ls' 7 [(0, .ref b0), (1, .ref (ad 0)), (2, .ref (am 0)), (3, .ref (ad 46)), (4, .int (nI i))] → W p l e room_1 s m #[Value.ref b0] below meth c9 H' [] (cells + 1) (slots + 6) Q (F0 m 1441 ls' [])) : W p l e room_1 s m #[Value.ref b0] below meth c9 H [] cells slots Q (F0 m 668 ls []) := by
  obtain ⟨hx, hb, hF, hK, hDo, hDm, hdis, hT, hXF, hC, hlt, hX, hbl, hL⟩ := C0
  obtain ⟨hPo, hPm, hS, hR⟩ := S0
  have hn9 : n ≤ 24 := hR.n24
  have hn : n ≤ 24 := hn9
  have hts := hF.2.2.2.2
  have hKm := hK.sub (tys' := [(cI, .int), (cA, .array .int)]) [0, 1] rfl
  have hAo : ∀ q, wA ad 47 q → s.heap.size ≤ q := fun q ⟨k, hk, eq⟩ => by rw [eq]; exact hDo.2 k hk
  have hAm : ∀ q, wA am 8 q → s.heap.size ≤ q := fun q ⟨k, hk, eq⟩ => by rw [eq]; exact hDm.2 k hk
  refine lv_aload_n hx hb dL_law_668 rfl (lv_at hl 1 rfl) ?_
  refine lv_aload_n hx hb dL_law_669 rfl (lv_at hl 0 rfl) ?_
  refine lv_iload hx hb dL_law_670 (lv_at hl 4 rfl) ?_
  refine lv_iconst (v := nI 1) hx hb dL_law_672 (by decide) ?_
  refine r_addN (r := i + 1) hx hb dL_law_673 rfl ?_
  refine r_sld hx hb hX hbl hL hS (i := i + 1) (by omega) e1 dL_law_674 ?_
  refine lv_aload_n hx hb dL_law_675 rfl (lv_at hl 0 rfl) ?_
  refine lv_iload hx hb dL_law_676 (lv_at hl 4 rfl) ?_
  refine lv_iconst (v := nI 2) hx hb dL_law_678 (by decide) ?_
  refine r_addN (r := i + 2) hx hb dL_law_679 rfl ?_
  refine r_sld hx hb hX hbl hL hS (i := i + 2) (by omega) e2 dL_law_680 ?_
  refine lv_aload_n hx hb dL_law_681 rfl (lv_at hl 3 rfl) ?_
  refine k_L (vx_runSW (As := [.ref (ad 0), .int (nI c), .int (nI k), .ref (ad 46)]) (rest := []) hF (w_mergedByValues_0 l D cI cA ad n x c k cL o hc hn hk) (vx_cwSW 4 hts gL_law_L_mergedByValues rfl rfl rfl (by decide +kernel) ⟨(Nat.le_of_ble_eq_true rfl), (Nat.le_of_ble_eq_true rfl)⟩) (lw_pre hK hDo hT hXF hC hPo hS) rfl rfl hl.1 rfl (lv_room (Nat.le_of_ble_eq_true rfl)) dL_law_682 hroom) hAo (fun H1 hP1 hz hk9 => ?_)
  have hPm := lw_keep (fun j hj ⟨k, hk, eq⟩ => hdis k j hk hj eq.symm) hPm hk9
  have hS := lw_S hAo hS hz hk9
  refine lv_istore (lv' := [(5, .int (nI 0)), (0, .ref b0), (1, .ref (ad 0)), (2, .ref (am 0)), (3, .ref (ad 46)), (4, .int (nI i))]) hx hb dL_law_685 hl (by decide) rfl (fun ls hl => ?_)
  refine lv_aload_n hx hb dL_law_687 rfl (lv_at hl 3 rfl) ?_
  refine lv_aload_n hx hb dL_law_688 rfl (lv_at hl 1 rfl) ?_
  refine lv_iload hx hb dL_law_689 (lv_at hl 5 rfl) ?_
  refine lv_iconst (v := nI 1) hx hb dL_law_691 (by decide) ?_
  refine r_addN (r := i + 1) hx hb dL_law_692 rfl ?_
  refine r_sld hx hb hX hbl hL hS (i := i + 1) (by omega) e1 dL_law_693 ?_
  refine lv_aload_n hx hb dL_law_694 rfl (lv_at hl 1 rfl) ?_
  refine lv_iload hx hb dL_law_695 (lv_at hl 5 rfl) ?_
  refine lv_iconst (v := nI 2) hx hb dL_law_697 (by decide) ?_
  refine r_addN (r := i + 2) hx hb dL_law_698 rfl ?_
  refine r_sld hx hb hX hbl hL hS (i := i + 2) (by omega) e2 dL_law_699 ?_
  refine k_M (va_runV (As := [.int (nI c), .int (nI k)]) (rest := []) hF (m_mergedByValues_0 l D cI cA am th n y c k hc hn9 hk) (cwV 2 hts gL_law_X4_mergedByValues rfl rfl rfl (by decide +kernel) ⟨(Nat.le_of_ble_eq_true rfl), (Nat.le_of_ble_eq_true rfl)⟩) (k_pre hPm hKm hDm hT (k := 0) (by decide) mF_0 rfl) rfl rfl hl.1 rfl (lv_room (Nat.le_of_ble_eq_true rfl)) dL_law_700 ⟨hroom.1, hroom.2⟩) hAm (fun H2 hPm hz hk9 => ?_)
  have hPo := lw_keep (fun j hj ⟨k, hk, eq⟩ => hdis j k hj hk eq) hP1 hk9
  have hS := lw_S hAm hS hz hk9
  refine r_topi (show _ = byV (x (k + 16) c) (x (k + 18) c) (x (k + 20) c) 30 from by rw [byV_eq (hR.mineF (by omega) hk) (hR.theirs (by omega) hk).2, ← (hR.stE (by omega) hk).1]; rfl) ?_
  refine lv_istore (lv' := [(6, .int (byV (x (k + 16) c) (x (k + 18) c) (x (k + 20) c) 30)), (5, .int (nI 0)), (0, .ref b0), (1, .ref (ad 0)), (2, .ref (am 0)), (3, .ref (ad 46)), (4, .int (nI i))]) hx hb dL_law_703 hl (by decide) rfl (fun ls hl => ?_)
  refine lv_aload_n hx hb dL_law_705 rfl (lv_at hl 4 rfl) ?_
  refine k_Ri (va_runV (As := []) (rest := []) hF (c_X4_thrown l D cI cA am _ _ _) (cwV 0 hts gL_law_X4_thrown rfl rfl rfl (by decide +kernel) ⟨(Nat.le_of_ble_eq_true rfl), (Nat.le_of_ble_eq_true rfl)⟩) (k_pre hPm hKm hDm hT (k := 0) (by decide) mF_0 rfl) rfl rfl hl.1 rfl (lv_room (Nat.le_of_ble_eq_true rfl)) dL_law_706 ⟨hroom.1, hroom.2⟩) ?_
  refine lv_iload hx hb dL_law_709 (lv_at hl 1 rfl) ?_
  refine r_ceqN (tgt := 716) hx hb (by decide) (by decide) dL_law_711 (by decide) (fun _ => ?_) (fun h => absurd rfl h)
  refine lv_iload hx hb dL_law_716 (lv_at hl 1 rfl) ?_
  refine r_ifneN (a := 0) (tgt := 733) hx hb (by decide) dL_law_718 (by decide) (fun h => absurd rfl h) (fun _ => ?_)
  refine lv_aload_n hx hb dL_law_721 rfl (lv_at hl 5 rfl) ?_
  refine lv_iconst (v := nI 0) hx hb dL_law_722 (by decide) ?_
  refine va_lald hx hb hK hPo 46 2 (wl_at (show 46 < 47 by decide)) rfl (vp_in_nI (by decide) (by decide)) dL_law_723 ?_
  rw [oW_0 (w := (byV (x (k + 16) c) (x (k + 18) c) (x (k + 20) c) 30).toInt64)]
  refine lv_iload hx hb dL_law_724 (lv_at hl 0 rfl) ?_
  refine lv_i2l hx hb dL_law_726 rfl ?_
  refine r_lcmpE hx hb dL_law_727 ?_
  refine r_ifeqN (a := 0) (tgt := 733) hx hb (by decide) dL_law_728 (by decide) (fun _ => ?_) (fun h => absurd rfl h)
  refine lv_goto (tgt := 1441) hx hb dL_law_733 (by decide) ?_
  exact kk _ _ _ _ _ _ _ _ (by omega) ⟨hPo, hPm, hS, hR⟩ (lv_sub hl [2, 3, 4, 5, 6] rfl)
set_option maxHeartbeats 4000000 in
set_option maxRecDepth 100000 in
theorem z_mergedByValues_Ta {p : Program} {l : Launch} {e : Env} {s : State} {m : MethodId} {below : List Frame} {meth : Method} {c9 : Code} {H : Heap} {cells slots : Nat} {Q : State → Prop} {ls : Array Slot} {D : va_G} {b0 L : Nat} {xs : Nat → Int32} {cI cA cL : ClassId} {ad am : Nat → Nat} {K n : Nat} {x y : Nat → Nat → Int32} {o : Nat → Int64} {th : Int32} {i : Nat} (C0 : lwC p l s m c9 b0 L xs D cI cA cL ad am) (S0 : lwS s D cI cA cL ad am K n x y o th H) (hK30 : K < 2 ^ 30) (hroom : cells + 1 ≤ room_1.cells ∧ slots + 6 ≤ room_1.slots) (hi : i + 4 < L) (hl : lv_has ls 7 [(0, .ref b0), (1, .ref (ad 0)), (2, .ref (am 0)), (3, .ref (ad 46)), (4, .int (nI i))]) (a : Int32) (k : Int32) (hca : cardB n a = false) (e1 : xs (i + 1) = a) (e2 : xs (i + 2) = k) (kk : ∀ (K' n' : Nat) (x' y' : Nat → Nat → Int32) (o' : Nat → Int64) (th' : Int32) (H' : Heap) (ls' : Array Slot), K' ≤ K + 216 → lwS s D cI cA cL ad am K' n' x' y' o' th' H' → lv_has ls' 7 [(0, .ref b0), (1, .ref (ad 0)), (2, .ref (am 0)), (3, .ref (ad 46)), (4, .int (nI i))] → W p l e room_1 s m #[Value.ref b0] below meth c9 H' [] (cells + 1) (slots + 6) Q (F0 m 1441 ls' [])) : W p l e room_1 s m #[Value.ref b0] below meth c9 H [] cells slots Q (F0 m 668 ls []) := by
  obtain ⟨hx, hb, hF, hK, hDo, hDm, hdis, hT, hXF, hC, hlt, hX, hbl, hL⟩ := C0
  obtain ⟨hPo, hPm, hS, hR⟩ := S0
  have hn9 : n ≤ 24 := hR.n24
  have hn : n ≤ 24 := hn9
  have hts := hF.2.2.2.2
  have hKm := hK.sub (tys' := [(cI, .int), (cA, .array .int)]) [0, 1] rfl
  have hAo : ∀ q, wA ad 47 q → s.heap.size ≤ q := fun q ⟨k, hk, eq⟩ => by rw [eq]; exact hDo.2 k hk
  have hAm : ∀ q, wA am 8 q → s.heap.size ≤ q := fun q ⟨k, hk, eq⟩ => by rw [eq]; exact hDm.2 k hk
  refine lv_aload_n hx hb dL_law_668 rfl (lv_at hl 1 rfl) ?_
  refine lv_aload_n hx hb dL_law_669 rfl (lv_at hl 0 rfl) ?_
  refine lv_iload hx hb dL_law_670 (lv_at hl 4 rfl) ?_
  refine lv_iconst (v := nI 1) hx hb dL_law_672 (by decide) ?_
  refine r_addN (r := i + 1) hx hb dL_law_673 rfl ?_
  refine r_sld hx hb hX hbl hL hS (i := i + 1) (by omega) e1 dL_law_674 ?_
  refine lv_aload_n hx hb dL_law_675 rfl (lv_at hl 0 rfl) ?_
  refine lv_iload hx hb dL_law_676 (lv_at hl 4 rfl) ?_
  refine lv_iconst (v := nI 2) hx hb dL_law_678 (by decide) ?_
  refine r_addN (r := i + 2) hx hb dL_law_679 rfl ?_
  refine r_sld hx hb hX hbl hL hS (i := i + 2) (by omega) e2 dL_law_680 ?_
  refine lv_aload_n hx hb dL_law_681 rfl (lv_at hl 3 rfl) ?_
  refine k_L (vx_runSW (As := [.ref (ad 0), .int a, .int k, .ref (ad 46)]) (rest := []) hF (w_mergedByValues_Ta l D cI cA ad n x a k cL o hlt hca) (vx_cwSW 4 hts gL_law_L_mergedByValues rfl rfl rfl (by decide +kernel) ⟨(Nat.le_of_ble_eq_true rfl), (Nat.le_of_ble_eq_true rfl)⟩) (lw_pre hK hDo hT hXF hC hPo hS) rfl rfl hl.1 rfl (lv_room (Nat.le_of_ble_eq_true rfl)) dL_law_682 hroom) hAo (fun H1 hP1 hz hk9 => ?_)
  have hPm := lw_keep (fun j hj ⟨k, hk, eq⟩ => hdis k j hk hj eq.symm) hPm hk9
  have hS := lw_S hAo hS hz hk9
  refine lv_istore (lv' := [(5, .int (nI 1)), (0, .ref b0), (1, .ref (ad 0)), (2, .ref (am 0)), (3, .ref (ad 46)), (4, .int (nI i))]) hx hb dL_law_685 hl (by decide) rfl (fun ls hl => ?_)
  refine lv_aload_n hx hb dL_law_687 rfl (lv_at hl 3 rfl) ?_
  refine lv_aload_n hx hb dL_law_688 rfl (lv_at hl 1 rfl) ?_
  refine lv_iload hx hb dL_law_689 (lv_at hl 5 rfl) ?_
  refine lv_iconst (v := nI 1) hx hb dL_law_691 (by decide) ?_
  refine r_addN (r := i + 1) hx hb dL_law_692 rfl ?_
  refine r_sld hx hb hX hbl hL hS (i := i + 1) (by omega) e1 dL_law_693 ?_
  refine lv_aload_n hx hb dL_law_694 rfl (lv_at hl 1 rfl) ?_
  refine lv_iload hx hb dL_law_695 (lv_at hl 5 rfl) ?_
  refine lv_iconst (v := nI 2) hx hb dL_law_697 (by decide) ?_
  refine r_addN (r := i + 2) hx hb dL_law_698 rfl ?_
  refine r_sld hx hb hX hbl hL hS (i := i + 2) (by omega) e2 dL_law_699 ?_
  refine k_M (va_runV (As := [.int a, .int k]) (rest := []) hF (m_mergedByValues_1 l D cI cA am th n y a k hca hn9) (cwV 2 hts gL_law_X4_mergedByValues rfl rfl rfl (by decide +kernel) ⟨(Nat.le_of_ble_eq_true rfl), (Nat.le_of_ble_eq_true rfl)⟩) (k_pre hPm hKm hDm hT (k := 0) (by decide) mF_0 rfl) rfl rfl hl.1 rfl (lv_room (Nat.le_of_ble_eq_true rfl)) dL_law_700 ⟨hroom.1, hroom.2⟩) hAm (fun H2 hPm hz hk9 => ?_)
  have hPo := lw_keep (fun j hj ⟨k, hk, eq⟩ => hdis j k hj hk eq) hP1 hk9
  have hS := lw_S hAm hS hz hk9
  refine lv_istore (lv' := [(6, .int (nI 0)), (5, .int (nI 1)), (0, .ref b0), (1, .ref (ad 0)), (2, .ref (am 0)), (3, .ref (ad 46)), (4, .int (nI i))]) hx hb dL_law_703 hl (by decide) rfl (fun ls hl => ?_)
  refine lv_aload_n hx hb dL_law_705 rfl (lv_at hl 4 rfl) ?_
  refine k_Ri (va_runV (As := []) (rest := []) hF (c_X4_thrown l D cI cA am _ _ _) (cwV 0 hts gL_law_X4_thrown rfl rfl rfl (by decide +kernel) ⟨(Nat.le_of_ble_eq_true rfl), (Nat.le_of_ble_eq_true rfl)⟩) (k_pre hPm hKm hDm hT (k := 0) (by decide) mF_0 rfl) rfl rfl hl.1 rfl (lv_room (Nat.le_of_ble_eq_true rfl)) dL_law_706 ⟨hroom.1, hroom.2⟩) ?_
  refine lv_iload hx hb dL_law_709 (lv_at hl 1 rfl) ?_
  refine r_ceqN (tgt := 716) hx hb (by decide) (by decide) dL_law_711 (by decide) (fun _ => ?_) (fun h => absurd rfl h)
  refine lv_iload hx hb dL_law_716 (lv_at hl 1 rfl) ?_
  refine r_ifneN (a := 1) (tgt := 733) hx hb (by decide) dL_law_718 (by decide) (fun _ => ?_) (fun h => absurd h (by decide))
  refine lv_goto (tgt := 1441) hx hb dL_law_733 (by decide) ?_
  exact kk _ _ _ _ _ _ _ _ (by omega) ⟨hPo, hPm, hS, hR⟩ (lv_sub hl [2, 3, 4, 5, 6] rfl)
set_option maxHeartbeats 4000000 in
set_option maxRecDepth 100000 in
theorem z_mergedByValues_Tb {p : Program} {l : Launch} {e : Env} {s : State} {m : MethodId} {below : List Frame} {meth : Method} {c9 : Code} {H : Heap} {cells slots : Nat} {Q : State → Prop} {ls : Array Slot} {D : va_G} {b0 L : Nat} {xs : Nat → Int32} {cI cA cL : ClassId} {ad am : Nat → Nat} {K n : Nat} {x y : Nat → Nat → Int32} {o : Nat → Int64} {th : Int32} {i : Nat} (C0 : lwC p l s m c9 b0 L xs D cI cA cL ad am) (S0 : lwS s D cI cA cL ad am K n x y o th H) (hK30 : K < 2 ^ 30) (hroom : cells + 1 ≤ room_1.cells ∧ slots + 6 ≤ room_1.slots) (hi : i + 4 < L) (hl : lv_has ls 7 [(0, .ref b0), (1, .ref (ad 0)), (2, .ref (am 0)), (3, .ref (ad 46)), (4, .int (nI i))]) (c : Nat) (k : Int32) (hc : c < n) (hbad : (kindB k) = false) (e1 : xs (i + 1) = nI c) (e2 : xs (i + 2) = k) (kk : ∀ (K' n' : Nat) (x' y' : Nat → Nat → Int32) (o' : Nat → Int64) (th' : Int32) (H' : Heap) (ls' : Array Slot), K' ≤ K + 216 → lwS s D cI cA cL ad am K' n' x' y' o' th' H' → lv_has ls' 7 [(0, .ref b0), (1, .ref (ad 0)), (2, .ref (am 0)), (3, .ref (ad 46)), (4, .int (nI i))] → W p l e room_1 s m #[Value.ref b0] below meth c9 H' [] (cells + 1) (slots + 6) Q (F0 m 1441 ls' [])) : W p l e room_1 s m #[Value.ref b0] below meth c9 H [] cells slots Q (F0 m 668 ls []) := by
  obtain ⟨hx, hb, hF, hK, hDo, hDm, hdis, hT, hXF, hC, hlt, hX, hbl, hL⟩ := C0
  obtain ⟨hPo, hPm, hS, hR⟩ := S0
  have hn9 : n ≤ 24 := hR.n24
  have hn : n ≤ 24 := hn9
  have hts := hF.2.2.2.2
  have hKm := hK.sub (tys' := [(cI, .int), (cA, .array .int)]) [0, 1] rfl
  have hAo : ∀ q, wA ad 47 q → s.heap.size ≤ q := fun q ⟨k, hk, eq⟩ => by rw [eq]; exact hDo.2 k hk
  have hAm : ∀ q, wA am 8 q → s.heap.size ≤ q := fun q ⟨k, hk, eq⟩ => by rw [eq]; exact hDm.2 k hk
  refine lv_aload_n hx hb dL_law_668 rfl (lv_at hl 1 rfl) ?_
  refine lv_aload_n hx hb dL_law_669 rfl (lv_at hl 0 rfl) ?_
  refine lv_iload hx hb dL_law_670 (lv_at hl 4 rfl) ?_
  refine lv_iconst (v := nI 1) hx hb dL_law_672 (by decide) ?_
  refine r_addN (r := i + 1) hx hb dL_law_673 rfl ?_
  refine r_sld hx hb hX hbl hL hS (i := i + 1) (by omega) e1 dL_law_674 ?_
  refine lv_aload_n hx hb dL_law_675 rfl (lv_at hl 0 rfl) ?_
  refine lv_iload hx hb dL_law_676 (lv_at hl 4 rfl) ?_
  refine lv_iconst (v := nI 2) hx hb dL_law_678 (by decide) ?_
  refine r_addN (r := i + 2) hx hb dL_law_679 rfl ?_
  refine r_sld hx hb hX hbl hL hS (i := i + 2) (by omega) e2 dL_law_680 ?_
  refine lv_aload_n hx hb dL_law_681 rfl (lv_at hl 3 rfl) ?_
  refine k_L (vx_runSW (As := [.ref (ad 0), .int (nI c), .int k, .ref (ad 46)]) (rest := []) hF (w_mergedByValues_Tb l D cI cA ad n x c k cL o hlt hc hn hbad) (vx_cwSW 4 hts gL_law_L_mergedByValues rfl rfl rfl (by decide +kernel) ⟨(Nat.le_of_ble_eq_true rfl), (Nat.le_of_ble_eq_true rfl)⟩) (lw_pre hK hDo hT hXF hC hPo hS) rfl rfl hl.1 rfl (lv_room (Nat.le_of_ble_eq_true rfl)) dL_law_682 hroom) hAo (fun H1 hP1 hz hk9 => ?_)
  have hPm := lw_keep (fun j hj ⟨k, hk, eq⟩ => hdis k j hk hj eq.symm) hPm hk9
  have hS := lw_S hAo hS hz hk9
  refine lv_istore (lv' := [(5, .int (nI 2)), (0, .ref b0), (1, .ref (ad 0)), (2, .ref (am 0)), (3, .ref (ad 46)), (4, .int (nI i))]) hx hb dL_law_685 hl (by decide) rfl (fun ls hl => ?_)
  refine lv_aload_n hx hb dL_law_687 rfl (lv_at hl 3 rfl) ?_
  refine lv_aload_n hx hb dL_law_688 rfl (lv_at hl 1 rfl) ?_
  refine lv_iload hx hb dL_law_689 (lv_at hl 5 rfl) ?_
  refine lv_iconst (v := nI 1) hx hb dL_law_691 (by decide) ?_
  refine r_addN (r := i + 1) hx hb dL_law_692 rfl ?_
  refine r_sld hx hb hX hbl hL hS (i := i + 1) (by omega) e1 dL_law_693 ?_
  refine lv_aload_n hx hb dL_law_694 rfl (lv_at hl 1 rfl) ?_
  refine lv_iload hx hb dL_law_695 (lv_at hl 5 rfl) ?_
  refine lv_iconst (v := nI 2) hx hb dL_law_697 (by decide) ?_
  refine r_addN (r := i + 2) hx hb dL_law_698 rfl ?_
  refine r_sld hx hb hX hbl hL hS (i := i + 2) (by omega) e2 dL_law_699 ?_
  refine k_M (va_runV (As := [.int (nI c), .int k]) (rest := []) hF (m_mergedByValues_2 l D cI cA am th n y c k hc hn9 hbad) (cwV 2 hts gL_law_X4_mergedByValues rfl rfl rfl (by decide +kernel) ⟨(Nat.le_of_ble_eq_true rfl), (Nat.le_of_ble_eq_true rfl)⟩) (k_pre hPm hKm hDm hT (k := 0) (by decide) mF_0 rfl) rfl rfl hl.1 rfl (lv_room (Nat.le_of_ble_eq_true rfl)) dL_law_700 ⟨hroom.1, hroom.2⟩) hAm (fun H2 hPm hz hk9 => ?_)
  have hPo := lw_keep (fun j hj ⟨k, hk, eq⟩ => hdis j k hj hk eq) hP1 hk9
  have hS := lw_S hAm hS hz hk9
  refine lv_istore (lv' := [(6, .int (nI 0)), (5, .int (nI 2)), (0, .ref b0), (1, .ref (ad 0)), (2, .ref (am 0)), (3, .ref (ad 46)), (4, .int (nI i))]) hx hb dL_law_703 hl (by decide) rfl (fun ls hl => ?_)
  refine lv_aload_n hx hb dL_law_705 rfl (lv_at hl 4 rfl) ?_
  refine k_Ri (va_runV (As := []) (rest := []) hF (c_X4_thrown l D cI cA am _ _ _) (cwV 0 hts gL_law_X4_thrown rfl rfl rfl (by decide +kernel) ⟨(Nat.le_of_ble_eq_true rfl), (Nat.le_of_ble_eq_true rfl)⟩) (k_pre hPm hKm hDm hT (k := 0) (by decide) mF_0 rfl) rfl rfl hl.1 rfl (lv_room (Nat.le_of_ble_eq_true rfl)) dL_law_706 ⟨hroom.1, hroom.2⟩) ?_
  refine lv_iload hx hb dL_law_709 (lv_at hl 1 rfl) ?_
  refine r_ceqN (tgt := 716) hx hb (by decide) (by decide) dL_law_711 (by decide) (fun _ => ?_) (fun h => absurd rfl h)
  refine lv_iload hx hb dL_law_716 (lv_at hl 1 rfl) ?_
  refine r_ifneN (a := 2) (tgt := 733) hx hb (by decide) dL_law_718 (by decide) (fun _ => ?_) (fun h => absurd h (by decide))
  refine lv_goto (tgt := 1441) hx hb dL_law_733 (by decide) ?_
  exact kk _ _ _ _ _ _ _ _ (by omega) ⟨hPo, hPm, hS, hR⟩ (lv_sub hl [2, 3, 4, 5, 6] rfl)
set_option maxHeartbeats 4000000 in
set_option maxRecDepth 100000 in
theorem z_unsynced_0 {p : Program} {l : Launch} {e : Env} {s : State} {m : MethodId} {below : List Frame} {meth : Method} {c9 : Code} {H : Heap} {cells slots : Nat} {Q : State → Prop} {ls : Array Slot} {D : va_G} {b0 L : Nat} {xs : Nat → Int32} {cI cA cL : ClassId} {ad am : Nat → Nat} {K n : Nat} {x y : Nat → Nat → Int32} {o : Nat → Int64} {th : Int32} {i : Nat} (C0 : lwC p l s m c9 b0 L xs D cI cA cL ad am) (S0 : lwS s D cI cA cL ad am K n x y o th H) (hK30 : K < 2 ^ 30) (hroom : cells + 1 ≤ room_1.cells ∧ slots + 6 ≤ room_1.slots) (hi : i + 4 < L) (hl : lv_has ls 7 [(0, .ref b0), (1, .ref (ad 0)), (2, .ref (am 0)), (3, .ref (ad 46)), (4, .int (nI i))]) (b : Int32) (hbk : bookB b = true) (e1 : xs (i + 1) = b) (kk : ∀ (K' n' : Nat) (x' y' : Nat → Nat → Int32) (o' : Nat → Int64) (th' : Int32) (H' : Heap) (ls' : Array Slot), K' ≤ K + 216 → lwS s D cI cA cL ad am K' n' x' y' o' th' H' → lv_has ls' 7 [(0, .ref b0), (1, .ref (ad 0)), (2, .ref (am 0)), (3, .ref (ad 46)), (4, .int (nI i))] → W p l e room_1 s m #[Value.ref b0] below meth c9 H' [] (cells + 1) (slots + 6) Q (F0 m 1441 ls' [])) : W p l e room_1 s m #[Value.ref b0] below meth c9 H [] cells slots Q (F0 m 736 ls []) := by
  obtain ⟨hx, hb, hF, hK, hDo, hDm, hdis, hT, hXF, hC, hlt, hX, hbl, hL⟩ := C0
  obtain ⟨hPo, hPm, hS, hR⟩ := S0
  have hn9 : n ≤ 24 := hR.n24
  have hn : n ≤ 24 := hn9
  have hts := hF.2.2.2.2
  have hKm := hK.sub (tys' := [(cI, .int), (cA, .array .int)]) [0, 1] rfl
  have hAo : ∀ q, wA ad 47 q → s.heap.size ≤ q := fun q ⟨k, hk, eq⟩ => by rw [eq]; exact hDo.2 k hk
  have hAm : ∀ q, wA am 8 q → s.heap.size ≤ q := fun q ⟨k, hk, eq⟩ => by rw [eq]; exact hDm.2 k hk
  refine lv_aload_n hx hb dL_law_736 rfl (lv_at hl 1 rfl) ?_
  refine lv_aload_n hx hb dL_law_737 rfl (lv_at hl 0 rfl) ?_
  refine lv_iload hx hb dL_law_738 (lv_at hl 4 rfl) ?_
  refine lv_iconst (v := nI 1) hx hb dL_law_740 (by decide) ?_
  refine r_addN (r := i + 1) hx hb dL_law_741 rfl ?_
  refine r_sld hx hb hX hbl hL hS (i := i + 1) (by omega) e1 dL_law_742 ?_
  refine lv_aload_n hx hb dL_law_743 rfl (lv_at hl 3 rfl) ?_
  refine k_L (vx_runSW (As := [.ref (ad 0), .int b, .ref (ad 46)]) (rest := []) hF (w_unsynced_0 l D cI cA ad n x b cL o hbk hn) (vx_cwSW 3 hts gL_law_L_unsynced rfl rfl rfl (by decide +kernel) ⟨(Nat.le_of_ble_eq_true rfl), (Nat.le_of_ble_eq_true rfl)⟩) (lw_pre hK hDo hT hXF hC hPo hS) rfl rfl hl.1 rfl (lv_room (Nat.le_of_ble_eq_true rfl)) dL_law_744 hroom) hAo (fun H1 hP1 hz hk9 => ?_)
  have hPm := lw_keep (fun j hj ⟨k, hk, eq⟩ => hdis k j hk hj eq.symm) hPm hk9
  have hS := lw_S hAo hS hz hk9
  refine lv_istore (lv' := [(5, .int (nI 0)), (0, .ref b0), (1, .ref (ad 0)), (2, .ref (am 0)), (3, .ref (ad 46)), (4, .int (nI i))]) hx hb dL_law_747 hl (by decide) rfl (fun ls hl => ?_)
  refine lv_aload_n hx hb dL_law_749 rfl (lv_at hl 3 rfl) ?_
  refine lv_aload_n hx hb dL_law_750 rfl (lv_at hl 1 rfl) ?_
  refine lv_iload hx hb dL_law_751 (lv_at hl 5 rfl) ?_
  refine lv_iconst (v := nI 1) hx hb dL_law_753 (by decide) ?_
  refine r_addN (r := i + 1) hx hb dL_law_754 rfl ?_
  refine r_sld hx hb hX hbl hL hS (i := i + 1) (by omega) e1 dL_law_755 ?_
  refine k_M (va_runV (As := [.int b]) (rest := []) hF (m_unsynced_0 l D cI cA am th n y b hbk hn9) (cwV 1 hts gL_law_X4_unsynced rfl rfl rfl (by decide +kernel) ⟨(Nat.le_of_ble_eq_true rfl), (Nat.le_of_ble_eq_true rfl)⟩) (k_pre hPm hKm hDm hT (k := 0) (by decide) mF_0 rfl) rfl rfl hl.1 rfl (lv_room (Nat.le_of_ble_eq_true rfl)) dL_law_756 ⟨hroom.1, hroom.2⟩) hAm (fun H2 hPm hz hk9 => ?_)
  have hPo := lw_keep (fun j hj ⟨k, hk, eq⟩ => hdis j k hj hk eq) hP1 hk9
  have hS := lw_S hAm hS hz hk9
  refine r_topi (show _ = usC x b n from (Rel_us hR n (Nat.le_refl _)).symm) ?_
  refine lv_istore (lv' := [(6, .int (usC x b n)), (5, .int (nI 0)), (0, .ref b0), (1, .ref (ad 0)), (2, .ref (am 0)), (3, .ref (ad 46)), (4, .int (nI i))]) hx hb dL_law_759 hl (by decide) rfl (fun ls hl => ?_)
  refine lv_aload_n hx hb dL_law_761 rfl (lv_at hl 4 rfl) ?_
  refine k_Ri (va_runV (As := []) (rest := []) hF (c_X4_thrown l D cI cA am _ _ _) (cwV 0 hts gL_law_X4_thrown rfl rfl rfl (by decide +kernel) ⟨(Nat.le_of_ble_eq_true rfl), (Nat.le_of_ble_eq_true rfl)⟩) (k_pre hPm hKm hDm hT (k := 0) (by decide) mF_0 rfl) rfl rfl hl.1 rfl (lv_room (Nat.le_of_ble_eq_true rfl)) dL_law_762 ⟨hroom.1, hroom.2⟩) ?_
  refine lv_iload hx hb dL_law_765 (lv_at hl 1 rfl) ?_
  refine r_ceqN (tgt := 772) hx hb (by decide) (by decide) dL_law_767 (by decide) (fun _ => ?_) (fun h => absurd rfl h)
  refine lv_iload hx hb dL_law_772 (lv_at hl 1 rfl) ?_
  refine r_ifneN (a := 0) (tgt := 789) hx hb (by decide) dL_law_774 (by decide) (fun h => absurd rfl h) (fun _ => ?_)
  refine lv_aload_n hx hb dL_law_777 rfl (lv_at hl 5 rfl) ?_
  refine lv_iconst (v := nI 0) hx hb dL_law_778 (by decide) ?_
  refine va_lald hx hb hK hPo 46 2 (wl_at (show 46 < 47 by decide)) rfl (vp_in_nI (by decide) (by decide)) dL_law_779 ?_
  rw [oW_0 (w := (usC x b n).toInt64)]
  refine lv_iload hx hb dL_law_780 (lv_at hl 0 rfl) ?_
  refine lv_i2l hx hb dL_law_782 rfl ?_
  refine r_lcmpE hx hb dL_law_783 ?_
  refine r_ifeqN (a := 0) (tgt := 789) hx hb (by decide) dL_law_784 (by decide) (fun _ => ?_) (fun h => absurd rfl h)
  refine lv_goto (tgt := 1441) hx hb dL_law_789 (by decide) ?_
  exact kk _ _ _ _ _ _ _ _ (by omega) ⟨hPo, hPm, hS, hR⟩ (lv_sub hl [2, 3, 4, 5, 6] rfl)
set_option maxHeartbeats 4000000 in
set_option maxRecDepth 100000 in
theorem z_unsynced_Ta {p : Program} {l : Launch} {e : Env} {s : State} {m : MethodId} {below : List Frame} {meth : Method} {c9 : Code} {H : Heap} {cells slots : Nat} {Q : State → Prop} {ls : Array Slot} {D : va_G} {b0 L : Nat} {xs : Nat → Int32} {cI cA cL : ClassId} {ad am : Nat → Nat} {K n : Nat} {x y : Nat → Nat → Int32} {o : Nat → Int64} {th : Int32} {i : Nat} (C0 : lwC p l s m c9 b0 L xs D cI cA cL ad am) (S0 : lwS s D cI cA cL ad am K n x y o th H) (hK30 : K < 2 ^ 30) (hroom : cells + 1 ≤ room_1.cells ∧ slots + 6 ≤ room_1.slots) (hi : i + 4 < L) (hl : lv_has ls 7 [(0, .ref b0), (1, .ref (ad 0)), (2, .ref (am 0)), (3, .ref (ad 46)), (4, .int (nI i))]) (b : Int32) (hbk : bookB b = false) (e1 : xs (i + 1) = b) (kk : ∀ (K' n' : Nat) (x' y' : Nat → Nat → Int32) (o' : Nat → Int64) (th' : Int32) (H' : Heap) (ls' : Array Slot), K' ≤ K + 216 → lwS s D cI cA cL ad am K' n' x' y' o' th' H' → lv_has ls' 7 [(0, .ref b0), (1, .ref (ad 0)), (2, .ref (am 0)), (3, .ref (ad 46)), (4, .int (nI i))] → W p l e room_1 s m #[Value.ref b0] below meth c9 H' [] (cells + 1) (slots + 6) Q (F0 m 1441 ls' [])) : W p l e room_1 s m #[Value.ref b0] below meth c9 H [] cells slots Q (F0 m 736 ls []) := by
  obtain ⟨hx, hb, hF, hK, hDo, hDm, hdis, hT, hXF, hC, hlt, hX, hbl, hL⟩ := C0
  obtain ⟨hPo, hPm, hS, hR⟩ := S0
  have hn9 : n ≤ 24 := hR.n24
  have hn : n ≤ 24 := hn9
  have hts := hF.2.2.2.2
  have hKm := hK.sub (tys' := [(cI, .int), (cA, .array .int)]) [0, 1] rfl
  have hAo : ∀ q, wA ad 47 q → s.heap.size ≤ q := fun q ⟨k, hk, eq⟩ => by rw [eq]; exact hDo.2 k hk
  have hAm : ∀ q, wA am 8 q → s.heap.size ≤ q := fun q ⟨k, hk, eq⟩ => by rw [eq]; exact hDm.2 k hk
  refine lv_aload_n hx hb dL_law_736 rfl (lv_at hl 1 rfl) ?_
  refine lv_aload_n hx hb dL_law_737 rfl (lv_at hl 0 rfl) ?_
  refine lv_iload hx hb dL_law_738 (lv_at hl 4 rfl) ?_
  refine lv_iconst (v := nI 1) hx hb dL_law_740 (by decide) ?_
  refine r_addN (r := i + 1) hx hb dL_law_741 rfl ?_
  refine r_sld hx hb hX hbl hL hS (i := i + 1) (by omega) e1 dL_law_742 ?_
  refine lv_aload_n hx hb dL_law_743 rfl (lv_at hl 3 rfl) ?_
  refine k_L (vx_runSW (As := [.ref (ad 0), .int b, .ref (ad 46)]) (rest := []) hF (w_unsynced_Ta l D cI cA ad n x b cL o hlt hbk) (vx_cwSW 3 hts gL_law_L_unsynced rfl rfl rfl (by decide +kernel) ⟨(Nat.le_of_ble_eq_true rfl), (Nat.le_of_ble_eq_true rfl)⟩) (lw_pre hK hDo hT hXF hC hPo hS) rfl rfl hl.1 rfl (lv_room (Nat.le_of_ble_eq_true rfl)) dL_law_744 hroom) hAo (fun H1 hP1 hz hk9 => ?_)
  have hPm := lw_keep (fun j hj ⟨k, hk, eq⟩ => hdis k j hk hj eq.symm) hPm hk9
  have hS := lw_S hAo hS hz hk9
  refine lv_istore (lv' := [(5, .int (nI 1)), (0, .ref b0), (1, .ref (ad 0)), (2, .ref (am 0)), (3, .ref (ad 46)), (4, .int (nI i))]) hx hb dL_law_747 hl (by decide) rfl (fun ls hl => ?_)
  refine lv_aload_n hx hb dL_law_749 rfl (lv_at hl 3 rfl) ?_
  refine lv_aload_n hx hb dL_law_750 rfl (lv_at hl 1 rfl) ?_
  refine lv_iload hx hb dL_law_751 (lv_at hl 5 rfl) ?_
  refine lv_iconst (v := nI 1) hx hb dL_law_753 (by decide) ?_
  refine r_addN (r := i + 1) hx hb dL_law_754 rfl ?_
  refine r_sld hx hb hX hbl hL hS (i := i + 1) (by omega) e1 dL_law_755 ?_
  refine k_M (va_runV (As := [.int b]) (rest := []) hF (m_unsynced_1 l D cI cA am th n y b hbk) (cwV 1 hts gL_law_X4_unsynced rfl rfl rfl (by decide +kernel) ⟨(Nat.le_of_ble_eq_true rfl), (Nat.le_of_ble_eq_true rfl)⟩) (k_pre hPm hKm hDm hT (k := 0) (by decide) mF_0 rfl) rfl rfl hl.1 rfl (lv_room (Nat.le_of_ble_eq_true rfl)) dL_law_756 ⟨hroom.1, hroom.2⟩) hAm (fun H2 hPm hz hk9 => ?_)
  have hPo := lw_keep (fun j hj ⟨k, hk, eq⟩ => hdis j k hj hk eq) hP1 hk9
  have hS := lw_S hAm hS hz hk9
  refine lv_istore (lv' := [(6, .int (nI 0)), (5, .int (nI 1)), (0, .ref b0), (1, .ref (ad 0)), (2, .ref (am 0)), (3, .ref (ad 46)), (4, .int (nI i))]) hx hb dL_law_759 hl (by decide) rfl (fun ls hl => ?_)
  refine lv_aload_n hx hb dL_law_761 rfl (lv_at hl 4 rfl) ?_
  refine k_Ri (va_runV (As := []) (rest := []) hF (c_X4_thrown l D cI cA am _ _ _) (cwV 0 hts gL_law_X4_thrown rfl rfl rfl (by decide +kernel) ⟨(Nat.le_of_ble_eq_true rfl), (Nat.le_of_ble_eq_true rfl)⟩) (k_pre hPm hKm hDm hT (k := 0) (by decide) mF_0 rfl) rfl rfl hl.1 rfl (lv_room (Nat.le_of_ble_eq_true rfl)) dL_law_762 ⟨hroom.1, hroom.2⟩) ?_
  refine lv_iload hx hb dL_law_765 (lv_at hl 1 rfl) ?_
  refine r_ceqN (tgt := 772) hx hb (by decide) (by decide) dL_law_767 (by decide) (fun _ => ?_) (fun h => absurd rfl h)
  refine lv_iload hx hb dL_law_772 (lv_at hl 1 rfl) ?_
  refine r_ifneN (a := 1) (tgt := 789) hx hb (by decide) dL_law_774 (by decide) (fun _ => ?_) (fun h => absurd h (by decide))
  refine lv_goto (tgt := 1441) hx hb dL_law_789 (by decide) ?_
  exact kk _ _ _ _ _ _ _ _ (by omega) ⟨hPo, hPm, hS, hR⟩ (lv_sub hl [2, 3, 4, 5, 6] rfl)
