set_option maxHeartbeats 4000000 in
set_option maxRecDepth 100000 in
theorem deed_sync {p : Program} {l : Launch} {e : Env} {s : State} {m : MethodId} {below : List Frame} {meth : Method} {c9 : Code} {H : Heap} {locs : List Loc} {cells slots : Nat} {Q : State → Prop} {ls : Array Slot} {D : va_G} {b0 L : Nat} {xs : Nat → Int32} {cI cA : ClassId} {ad : Nat → Nat} {K n : Nat} {x : Nat → Nat → Int32} {sn : Nat → Int32} {i T Y c d k w : Nat} (C0 : lwC p l s m c9 b0 L xs D cI cA ad) (hG : Gd K n x) (hP : va_P D vwCl (wl ad (sF cI cA ad n x sn) 47) H) (hS : va_S (fun q => s.heap.size ≤ q) s.heap H locs) (hY : Y < 2 ^ 28) (hc : c < n) (hd : d < n) (hk : k < 2) (hw : w < 6) (hrc : cells + 2 ≤ room_1.cells) (hrs : slots + 12 ≤ room_1.slots) (hl : lv_has ls 19 [(0, .ref b0), (1, .ref (ad 0)), (2, .ref (ad 46)), (3, .int (nI 1)), (4, .int (nI T)), (5, .int (nI i)), (7, .int (nI Y)), (9, .int (nI n)), (10, .int (nI c)), (11, .int (nI d)), (12, .int (nI k)), (13, .int (nI w))]) (kk : ∀ (K' n' : Nat) (x' : Nat → Nat → Int32) (sn' : Nat → Int32) (H' : Heap) (locs' : List Loc) (ls' : Array Slot), 1 ≤ n' → Gd K' n' x' → va_P D vwCl (wl ad (sF cI cA ad n' x' sn') 47) H' → va_S (fun q => s.heap.size ≤ q) s.heap H' locs' → lv_has ls' 19 [(0, .ref b0), (1, .ref (ad 0)), (2, .ref (ad 46)), (3, .int (nI 1)), (4, .int (nI T)), (5, .int (nI i)), (7, .int (nI Y))] → W p l e room_1 s m #[Value.ref b0] below meth c9 H' locs' (cells + 2) (slots + 12) Q (F0 m 1203 ls' [])) : W p l e room_1 s m #[Value.ref b0] below meth c9 H locs cells slots Q (F0 m 478 ls []) := by
  obtain ⟨hx, hb, hF, hK, hD, hT, hXF, hC, hlt, hX, hbl, hL⟩ := C0
  have hown : s.vm.findClass RL = some m.cls := hF.2.2.2.1
  have hts := hF.2.2.2.2
  have hn := hG.n24
  obtain ⟨β, eβ⟩ : ∃ β, β = Y % 3 := ⟨_, rfl⟩
  have hβ : β < 3 := by omega
  obtain ⟨j, hj, ej⟩ := syC_nat (x := x) (b := nI β) n
  refine lv_aload_n hx hb dL_law_478 rfl (lv_at hl 1 rfl) ?_
  refine lv_iload hx hb dL_law_479 (lv_at hl 8 rfl) ?_
  refine lv_iload hx hb dL_law_481 (lv_at hl 10 rfl) ?_
  refine k_Ri (va_runV (As := [.int (nI c), .int (nI k)]) (rest := []) hF (c_X3_merged l D cI cA ad n x c k (by omega) (by omega) (by omega)) (cwV 2 hts gL_law_X3_merged rfl rfl rfl (by decide +kernel) ⟨(Nat.le_of_ble_eq_true rfl), (Nat.le_of_ble_eq_true rfl)⟩) (k_pre (sP_c hP) hK (sD_c hD) hT (k := 0) (by decide) cF_0 rfl) rfl rfl hl.1 rfl (lv_room (Nat.le_of_ble_eq_true rfl)) dL_law_483 ⟨(by omega), (by omega)⟩) ?_
  refine lv_istore (lv' := [(14, .int (cSt x c k)), (0, .ref b0), (1, .ref (ad 0)), (2, .ref (ad 46)), (3, .int (nI 1)), (4, .int (nI T)), (5, .int (nI i)), (7, .int (nI Y)), (9, .int (nI n)), (10, .int (nI c)), (11, .int (nI d)), (12, .int (nI k)), (13, .int (nI w))]) hx hb dL_law_486 hl (by decide) rfl (fun ls hl => ?_)
  refine lv_iload hx hb dL_law_488 (lv_at hl 7 rfl) ?_
  refine lv_iconst (v := nI 3) hx hb dL_law_490 (by decide) ?_
  refine r_remN (a := Y) (b := 3) hx hb dL_law_491 (by omega) (by omega) (by omega) ?_
  refine r_topi (show (nI ((Y % 3)) : Int32) = nI β from congrArg nI eβ.symm) ?_
  refine lv_istore (lv' := [(15, .int (nI β)), (14, .int (cSt x c k)), (0, .ref b0), (1, .ref (ad 0)), (2, .ref (ad 46)), (3, .int (nI 1)), (4, .int (nI T)), (5, .int (nI i)), (7, .int (nI Y)), (9, .int (nI n)), (10, .int (nI c)), (11, .int (nI d)), (12, .int (nI k)), (13, .int (nI w))]) hx hb dL_law_492 hl (by decide) rfl (fun ls hl => ?_)
  refine lv_aload_n hx hb dL_law_494 rfl (lv_at hl 3 rfl) ?_
  refine lv_iconst (v := nI 0) hx hb dL_law_495 (by decide) ?_
  refine k_Ri (va_runV (As := [.int (nI 0)]) (rest := []) hF (c_X3_unsynced l D cI cA ad n x (nI 0) (book_ok (by omega)) (by omega)) (cwV 1 hts gL_law_X3_unsynced rfl rfl rfl (by decide +kernel) ⟨(Nat.le_of_ble_eq_true rfl), (Nat.le_of_ble_eq_true rfl)⟩) (k_pre (sP_c hP) hK (sD_c hD) hT (k := 0) (by decide) cF_0 rfl) rfl rfl hl.1 rfl (lv_room (Nat.le_of_ble_eq_true rfl)) dL_law_496 ⟨(by omega), (by omega)⟩) ?_
  refine lv_aload_n hx hb dL_law_499 rfl (lv_at hl 3 rfl) ?_
  refine lv_iconst (v := nI 1) hx hb dL_law_500 (by decide) ?_
  refine k_Ri (va_runV (As := [.int (nI 1)]) (rest := [.int (usC x (nI 0) n)]) hF (c_X3_unsynced l D cI cA ad n x (nI 1) (book_ok (by omega)) (by omega)) (cwV 1 hts gL_law_X3_unsynced rfl rfl rfl (by decide +kernel) ⟨(Nat.le_of_ble_eq_true rfl), (Nat.le_of_ble_eq_true rfl)⟩) (k_pre (sP_c hP) hK (sD_c hD) hT (k := 0) (by decide) cF_0 rfl) rfl rfl hl.1 rfl (lv_room (Nat.le_of_ble_eq_true rfl)) dL_law_501 ⟨(by omega), (by omega)⟩) ?_
  refine lv_iadd hx hb dL_law_504 ?_
  refine lv_aload_n hx hb dL_law_505 rfl (lv_at hl 3 rfl) ?_
  refine lv_iconst (v := nI 2) hx hb dL_law_506 (by decide) ?_
  refine k_Ri (va_runV (As := [.int (nI 2)]) (rest := [.int ((usC x (nI 0) n) + (usC x (nI 1) n))]) hF (c_X3_unsynced l D cI cA ad n x (nI 2) (book_ok (by omega)) (by omega)) (cwV 1 hts gL_law_X3_unsynced rfl rfl rfl (by decide +kernel) ⟨(Nat.le_of_ble_eq_true rfl), (Nat.le_of_ble_eq_true rfl)⟩) (k_pre (sP_c hP) hK (sD_c hD) hT (k := 0) (by decide) cF_0 rfl) rfl rfl hl.1 rfl (lv_room (Nat.le_of_ble_eq_true rfl)) dL_law_507 ⟨(by omega), (by omega)⟩) ?_
  refine lv_iadd hx hb dL_law_510 ?_
  refine lv_aload_n hx hb dL_law_511 rfl (lv_at hl 3 rfl) ?_
  refine lv_iload hx hb dL_law_512 (lv_at hl 0 rfl) ?_
  refine k_Ri (va_runV (As := [.int (nI β)]) (rest := [.int (((usC x (nI 0) n) + (usC x (nI 1) n)) + (usC x (nI 2) n))]) hF (c_X3_unsynced l D cI cA ad n x (nI β) (book_ok (by omega)) (by omega)) (cwV 1 hts gL_law_X3_unsynced rfl rfl rfl (by decide +kernel) ⟨(Nat.le_of_ble_eq_true rfl), (Nat.le_of_ble_eq_true rfl)⟩) (k_pre (sP_c hP) hK (sD_c hD) hT (k := 0) (by decide) cF_0 rfl) rfl rfl hl.1 rfl (lv_room (Nat.le_of_ble_eq_true rfl)) dL_law_514 ⟨(by omega), (by omega)⟩) ?_
  refine lv_isub hx hb dL_law_517 ?_
  refine lv_istore (lv' := [(16, .int ((((usC x (nI 0) n) + (usC x (nI 1) n)) + (usC x (nI 2) n)) - (usC x (nI β) n))), (15, .int (nI β)), (14, .int (cSt x c k)), (0, .ref b0), (1, .ref (ad 0)), (2, .ref (ad 46)), (3, .int (nI 1)), (4, .int (nI T)), (5, .int (nI i)), (7, .int (nI Y)), (9, .int (nI n)), (10, .int (nI c)), (11, .int (nI d)), (12, .int (nI k)), (13, .int (nI w))]) hx hb dL_law_518 hl (by decide) rfl (fun ls hl => ?_)
  refine lv_aload_n hx hb dL_law_520 rfl (lv_at hl 4 rfl) ?_
  refine lv_iload hx hb dL_law_521 (lv_at hl 1 rfl) ?_
  refine k_C (va_runV (As := [.int (nI β)]) (rest := []) hF (c_X3_sync l D cI cA ad n x (nI β) (book_ok (by omega)) (by omega)) (cwV 1 hts gL_law_X3_sync rfl rfl rfl (by decide +kernel) ⟨(Nat.le_of_ble_eq_true rfl), (Nat.le_of_ble_eq_true rfl)⟩) (k_pre (sP_c hP) hK (sD_c hD) hT (k := 0) (by decide) cF_0 rfl) rfl rfl hl.1 rfl (lv_room (Nat.le_of_ble_eq_true rfl)) dL_law_523 ⟨(by omega), (by omega)⟩) hD hP hS (fun H locs hP hS => ?_)
  refine r_topi (show (syC x (nI β) n : Int32) = nI j from ej) ?_
  obtain ⟨x1, e_x1⟩ : ∃ x1, x1 = syS x (nI β) n := ⟨_, rfl⟩
  rw [← e_x1] at hP
  refine lv_istore (lv' := [(17, .int (nI j)), (16, .int ((((usC x (nI 0) n) + (usC x (nI 1) n)) + (usC x (nI 2) n)) - (usC x (nI β) n))), (15, .int (nI β)), (14, .int (cSt x c k)), (0, .ref b0), (1, .ref (ad 0)), (2, .ref (ad 46)), (3, .int (nI 1)), (4, .int (nI T)), (5, .int (nI i)), (7, .int (nI Y)), (9, .int (nI n)), (10, .int (nI c)), (11, .int (nI d)), (12, .int (nI k)), (13, .int (nI w))]) hx hb dL_law_526 hl (by decide) rfl (fun ls hl => ?_)
  have h575 : ∀ f : Bool, (f = true → x1 (k + 16) c = cSt x c k) → ∀ ls : Array Slot, lv_has ls 19 [(17, .int (nI j)), (16, .int ((((usC x (nI 0) n) + (usC x (nI 1) n)) + (usC x (nI 2) n)) - (usC x (nI β) n))), (15, .int (nI β)), (14, .int (cSt x c k)), (0, .ref b0), (1, .ref (ad 0)), (2, .ref (ad 46)), (3, .int (nI 1)), (4, .int (nI T)), (5, .int (nI i)), (7, .int (nI Y)), (9, .int (nI n)), (10, .int (nI c)), (11, .int (nI d)), (12, .int (nI k)), (13, .int (nI w))] → W p l e room_1 s m #[Value.ref b0] below meth c9 H locs cells slots Q (F0 m 575 ls [.int (bI f)]) := by
    intro f hf ls hl
    refine lv_istore (lv' := [(18, .int (bI f)), (17, .int (nI j)), (16, .int ((((usC x (nI 0) n) + (usC x (nI 1) n)) + (usC x (nI 2) n)) - (usC x (nI β) n))), (15, .int (nI β)), (14, .int (cSt x c k)), (0, .ref b0), (1, .ref (ad 0)), (2, .ref (ad 46)), (3, .int (nI 1)), (4, .int (nI T)), (5, .int (nI i)), (7, .int (nI Y)), (9, .int (nI n)), (10, .int (nI c)), (11, .int (nI d)), (12, .int (nI k)), (13, .int (nI w))]) hx hb dL_law_575 hl (by decide) rfl (fun ls hl => ?_)
    refine lv_iload hx hb dL_law_577 (lv_at hl 1 rfl) ?_
    refine r_ifltN (a := j) (tgt := 649) hx hb (by omega) dL_law_579 (by decide) ?_
    refine lv_aload_n hx hb dL_law_582 rfl (lv_at hl 6 rfl) ?_
    refine lv_iload hx hb dL_law_583 (lv_at hl 3 rfl) ?_
    refine k_Ri (va_runV (As := [.int (nI β)]) (rest := []) hF (c_X3_unsynced l D cI cA ad n x1 (nI β) (book_ok (by omega)) (by omega)) (cwV 1 hts gL_law_X3_unsynced rfl rfl rfl (by decide +kernel) ⟨(Nat.le_of_ble_eq_true rfl), (Nat.le_of_ble_eq_true rfl)⟩) (k_pre (sP_c hP) hK (sD_c hD) hT (k := 0) (by decide) cF_0 rfl) rfl rfl hl.1 rfl (lv_room (Nat.le_of_ble_eq_true rfl)) dL_law_585 ⟨(by omega), (by omega)⟩) ?_
    refine r_topi (show (usC x1 (nI β) n : Int32) = nI 0 from by rw [e_x1]; exact sy_us n (Nat.le_refl _)) ?_
    refine r_ifneN (a := 0) (tgt := 649) hx hb (by omega) dL_law_588 (by decide) (fun h => absurd h (by decide)) (fun _ => ?_)
    refine lv_aload_n hx hb dL_law_591 rfl (lv_at hl 6 rfl) ?_
    refine lv_iconst (v := nI 0) hx hb dL_law_592 (by decide) ?_
    refine k_Ri (va_runV (As := [.int (nI 0)]) (rest := []) hF (c_X3_unsynced l D cI cA ad n x1 (nI 0) (book_ok (by omega)) (by omega)) (cwV 1 hts gL_law_X3_unsynced rfl rfl rfl (by decide +kernel) ⟨(Nat.le_of_ble_eq_true rfl), (Nat.le_of_ble_eq_true rfl)⟩) (k_pre (sP_c hP) hK (sD_c hD) hT (k := 0) (by decide) cF_0 rfl) rfl rfl hl.1 rfl (lv_room (Nat.le_of_ble_eq_true rfl)) dL_law_593 ⟨(by omega), (by omega)⟩) ?_
    refine lv_aload_n hx hb dL_law_596 rfl (lv_at hl 6 rfl) ?_
    refine lv_iconst (v := nI 1) hx hb dL_law_597 (by decide) ?_
    refine k_Ri (va_runV (As := [.int (nI 1)]) (rest := [.int (usC x1 (nI 0) n)]) hF (c_X3_unsynced l D cI cA ad n x1 (nI 1) (book_ok (by omega)) (by omega)) (cwV 1 hts gL_law_X3_unsynced rfl rfl rfl (by decide +kernel) ⟨(Nat.le_of_ble_eq_true rfl), (Nat.le_of_ble_eq_true rfl)⟩) (k_pre (sP_c hP) hK (sD_c hD) hT (k := 0) (by decide) cF_0 rfl) rfl rfl hl.1 rfl (lv_room (Nat.le_of_ble_eq_true rfl)) dL_law_598 ⟨(by omega), (by omega)⟩) ?_
    refine lv_iadd hx hb dL_law_601 ?_
    refine lv_aload_n hx hb dL_law_602 rfl (lv_at hl 6 rfl) ?_
    refine lv_iconst (v := nI 2) hx hb dL_law_603 (by decide) ?_
    refine k_Ri (va_runV (As := [.int (nI 2)]) (rest := [.int ((usC x1 (nI 0) n) + (usC x1 (nI 1) n))]) hF (c_X3_unsynced l D cI cA ad n x1 (nI 2) (book_ok (by omega)) (by omega)) (cwV 1 hts gL_law_X3_unsynced rfl rfl rfl (by decide +kernel) ⟨(Nat.le_of_ble_eq_true rfl), (Nat.le_of_ble_eq_true rfl)⟩) (k_pre (sP_c hP) hK (sD_c hD) hT (k := 0) (by decide) cF_0 rfl) rfl rfl hl.1 rfl (lv_room (Nat.le_of_ble_eq_true rfl)) dL_law_604 ⟨(by omega), (by omega)⟩) ?_
    refine lv_iadd hx hb dL_law_607 ?_
    refine r_topi (show (((usC x1 (nI 0) n) + (usC x1 (nI 1) n)) + (usC x1 (nI 2) n) : Int32) = (((usC x (nI 0) n) + (usC x (nI 1) n)) + (usC x (nI 2) n)) - (usC x (nI β) n) from by rw [e_x1]; exact sy_sum (by omega) hβ) ?_
    refine lv_iload hx hb dL_law_608 (lv_at hl 2 rfl) ?_
    refine lv_icmp_ne (tgt := 649) hx hb dL_law_610 (by decide) (fun h => absurd rfl h) (fun _ => ?_)
    refine lv_aload_n hx hb dL_law_613 rfl (lv_at hl 6 rfl) ?_
    refine lv_iload hx hb dL_law_614 (lv_at hl 13 rfl) ?_
    refine lv_iload hx hb dL_law_616 (lv_at hl 15 rfl) ?_
    refine k_Ri (va_runV (As := [.int (nI c), .int (nI k)]) (rest := []) hF (c_X3_merged l D cI cA ad n x1 c k (by omega) (by omega) (by omega)) (cwV 2 hts gL_law_X3_merged rfl rfl rfl (by decide +kernel) ⟨(Nat.le_of_ble_eq_true rfl), (Nat.le_of_ble_eq_true rfl)⟩) (k_pre (sP_c hP) hK (sD_c hD) hT (k := 0) (by decide) cF_0 rfl) rfl rfl hl.1 rfl (lv_room (Nat.le_of_ble_eq_true rfl)) dL_law_618 ⟨(by omega), (by omega)⟩) ?_
    refine r_topi (show (cSt x1 c k : Int32) = cSt x c k from by rw [e_x1]; exact sy_st hc hk) ?_
    refine lv_iload hx hb dL_law_621 (lv_at hl 4 rfl) ?_
    refine lv_icmp_ne (tgt := 649) hx hb dL_law_623 (by decide) (fun h => absurd rfl h) (fun _ => ?_)
    refine lv_iload hx hb dL_law_626 (lv_at hl 0 rfl) ?_
    refine r_ifeqB (b := f) (tgt := 645) hx hb dL_law_628 (by decide) (fun _ => ?_) (fun hf9 => ?_)
    · refine lv_iconst (v := nI 1) hx hb dL_law_645 (by decide) ?_
      refine lv_goto (tgt := 650) hx hb dL_law_646 (by decide) ?_
      refine lv_istore_n (lv' := [(3, .int (nI 1)), (18, .int (bI f)), (17, .int (nI j)), (16, .int ((((usC x (nI 0) n) + (usC x (nI 1) n)) + (usC x (nI 2) n)) - (usC x (nI β) n))), (15, .int (nI β)), (14, .int (cSt x c k)), (0, .ref b0), (1, .ref (ad 0)), (2, .ref (ad 46)), (4, .int (nI T)), (5, .int (nI i)), (7, .int (nI Y)), (9, .int (nI n)), (10, .int (nI c)), (11, .int (nI d)), (12, .int (nI k)), (13, .int (nI w))]) hx hb dL_law_650 rfl hl (by decide) rfl (fun ls hl => ?_)
      refine lv_goto (tgt := 1203) hx hb dL_law_651 (by decide) ?_
      exact W.widen (k := cells + 2) (n := slots + 12) (by omega) (by omega) (kk (K + 9 * n) n x1 sn H locs ls (by omega) (by rw [e_x1]; exact Gd_sync hG) hP hS (lv_sub hl [6, 7, 8, 0, 9, 10, 11] rfl))
    · refine lv_aload_n hx hb dL_law_631 rfl (lv_at hl 6 rfl) ?_
      refine lv_iload hx hb dL_law_632 (lv_at hl 13 rfl) ?_
      refine lv_iconst (v := nI 0) hx hb dL_law_634 (by decide) ?_
      refine lv_iload hx hb dL_law_635 (lv_at hl 15 rfl) ?_
      refine k_Ri (va_runV (As := [.int (nI c), .int (nI 0), .int (nI k)]) (rest := []) hF (c_X3_values l D cI cA ad n x1 c 0 k (by omega) (by omega) (by omega) (by omega)) (cwV 3 hts gL_law_X3_values rfl rfl rfl (by decide +kernel) ⟨(Nat.le_of_ble_eq_true rfl), (Nat.le_of_ble_eq_true rfl)⟩) (k_pre (sP_c hP) hK (sD_c hD) hT (k := 0) (by decide) cF_0 rfl) rfl rfl hl.1 rfl (lv_room (Nat.le_of_ble_eq_true rfl)) dL_law_637 ⟨(by omega), (by omega)⟩) ?_
      refine r_topi (show (x1 (2 * 0 + k + 16) c : Int32) = x1 (k + 16) c from congrArg (fun r => x1 r c) (by omega)) ?_
      refine r_topi (show (x1 (k + 16) c : Int32) = cSt x c k from hf hf9) ?_
      refine lv_iload hx hb dL_law_640 (lv_at hl 4 rfl) ?_
      refine lv_icmp_ne (tgt := 649) hx hb dL_law_642 (by decide) (fun h => absurd rfl h) (fun _ => ?_)
      refine lv_iconst (v := nI 1) hx hb dL_law_645 (by decide) ?_
      refine lv_goto (tgt := 650) hx hb dL_law_646 (by decide) ?_
      refine lv_istore_n (lv' := [(3, .int (nI 1)), (18, .int (bI f)), (17, .int (nI j)), (16, .int ((((usC x (nI 0) n) + (usC x (nI 1) n)) + (usC x (nI 2) n)) - (usC x (nI β) n))), (15, .int (nI β)), (14, .int (cSt x c k)), (0, .ref b0), (1, .ref (ad 0)), (2, .ref (ad 46)), (4, .int (nI T)), (5, .int (nI i)), (7, .int (nI Y)), (9, .int (nI n)), (10, .int (nI c)), (11, .int (nI d)), (12, .int (nI k)), (13, .int (nI w))]) hx hb dL_law_650 rfl hl (by decide) rfl (fun ls hl => ?_)
      refine lv_goto (tgt := 1203) hx hb dL_law_651 (by decide) ?_
      exact W.widen (k := cells + 2) (n := slots + 12) (by omega) (by omega) (kk (K + 9 * n) n x1 sn H locs ls (by omega) (by rw [e_x1]; exact Gd_sync hG) hP hS (lv_sub hl [6, 7, 8, 0, 9, 10, 11] rfl))
  refine lv_aload_n hx hb dL_law_528 rfl (lv_at hl 5 rfl) ?_
  refine lv_iload hx hb dL_law_529 (lv_at hl 12 rfl) ?_
  refine lv_iconst (v := nI 0) hx hb dL_law_531 (by decide) ?_
  refine lv_iload hx hb dL_law_532 (lv_at hl 14 rfl) ?_
  refine k_Ri (va_runV (As := [.int (nI c), .int (nI 0), .int (nI k)]) (rest := []) hF (c_X3_values l D cI cA ad n x1 c 0 k (by omega) (by omega) (by omega) (by omega)) (cwV 3 hts gL_law_X3_values rfl rfl rfl (by decide +kernel) ⟨(Nat.le_of_ble_eq_true rfl), (Nat.le_of_ble_eq_true rfl)⟩) (k_pre (sP_c hP) hK (sD_c hD) hT (k := 0) (by decide) cF_0 rfl) rfl rfl hl.1 rfl (lv_room (Nat.le_of_ble_eq_true rfl)) dL_law_534 ⟨(by omega), (by omega)⟩) ?_
  refine r_topi (show (x1 (2 * 0 + k + 16) c : Int32) = x1 (k + 16) c from congrArg (fun r => x1 r c) (by omega)) ?_
  refine lv_aload_n hx hb dL_law_537 rfl (lv_at hl 5 rfl) ?_
  refine lv_iload hx hb dL_law_538 (lv_at hl 12 rfl) ?_
  refine lv_iconst (v := nI 2) hx hb dL_law_540 (by decide) ?_
  refine lv_iload hx hb dL_law_541 (lv_at hl 14 rfl) ?_
  refine k_Ri (va_runV (As := [.int (nI c), .int (nI 2), .int (nI k)]) (rest := [.int (x1 (k + 16) c)]) hF (c_X3_values l D cI cA ad n x1 c 2 k (by omega) (by omega) (by omega) (by omega)) (cwV 3 hts gL_law_X3_values rfl rfl rfl (by decide +kernel) ⟨(Nat.le_of_ble_eq_true rfl), (Nat.le_of_ble_eq_true rfl)⟩) (k_pre (sP_c hP) hK (sD_c hD) hT (k := 0) (by decide) cF_0 rfl) rfl rfl hl.1 rfl (lv_room (Nat.le_of_ble_eq_true rfl)) dL_law_543 ⟨(by omega), (by omega)⟩) ?_
  refine r_topi (show (x1 (2 * 2 + k + 16) c : Int32) = x1 (k + 20) c from congrArg (fun r => x1 r c) (by omega)) ?_
  refine lv_icmp_ne (tgt := 574) hx hb dL_law_546 (by decide) (fun _ => ?_) (fun h1 => ?_)
  · refine lv_iconst (v := bI false) hx hb dL_law_574 (by decide) ?_
    exact h575 false (fun h => by cases h) ls hl
  · refine lv_aload_n hx hb dL_law_549 rfl (lv_at hl 5 rfl) ?_
    refine lv_iload hx hb dL_law_550 (lv_at hl 12 rfl) ?_
    refine lv_iconst (v := nI 1) hx hb dL_law_552 (by decide) ?_
    refine lv_iload hx hb dL_law_553 (lv_at hl 14 rfl) ?_
    refine k_Ri (va_runV (As := [.int (nI c), .int (nI 1), .int (nI k)]) (rest := []) hF (c_X3_values l D cI cA ad n x1 c 1 k (by omega) (by omega) (by omega) (by omega)) (cwV 3 hts gL_law_X3_values rfl rfl rfl (by decide +kernel) ⟨(Nat.le_of_ble_eq_true rfl), (Nat.le_of_ble_eq_true rfl)⟩) (k_pre (sP_c hP) hK (sD_c hD) hT (k := 0) (by decide) cF_0 rfl) rfl rfl hl.1 rfl (lv_room (Nat.le_of_ble_eq_true rfl)) dL_law_555 ⟨(by omega), (by omega)⟩) ?_
    refine r_topi (show (x1 (2 * 1 + k + 16) c : Int32) = x1 (k + 18) c from congrArg (fun r => x1 r c) (by omega)) ?_
    refine lv_aload_n hx hb dL_law_558 rfl (lv_at hl 5 rfl) ?_
    refine lv_iload hx hb dL_law_559 (lv_at hl 12 rfl) ?_
    refine lv_iconst (v := nI 2) hx hb dL_law_561 (by decide) ?_
    refine lv_iload hx hb dL_law_562 (lv_at hl 14 rfl) ?_
    refine k_Ri (va_runV (As := [.int (nI c), .int (nI 2), .int (nI k)]) (rest := [.int (x1 (k + 18) c)]) hF (c_X3_values l D cI cA ad n x1 c 2 k (by omega) (by omega) (by omega) (by omega)) (cwV 3 hts gL_law_X3_values rfl rfl rfl (by decide +kernel) ⟨(Nat.le_of_ble_eq_true rfl), (Nat.le_of_ble_eq_true rfl)⟩) (k_pre (sP_c hP) hK (sD_c hD) hT (k := 0) (by decide) cF_0 rfl) rfl rfl hl.1 rfl (lv_room (Nat.le_of_ble_eq_true rfl)) dL_law_564 ⟨(by omega), (by omega)⟩) ?_
    refine r_topi (show (x1 (2 * 2 + k + 16) c : Int32) = x1 (k + 20) c from congrArg (fun r => x1 r c) (by omega)) ?_
    refine lv_icmp_ne (tgt := 574) hx hb dL_law_567 (by decide) (fun _ => ?_) (fun h2 => ?_)
    · refine lv_iconst (v := bI false) hx hb dL_law_574 (by decide) ?_
      exact h575 false (fun h => by cases h) ls hl
    · refine lv_iconst (v := bI true) hx hb dL_law_570 (by decide) ?_
      refine lv_goto (tgt := 575) hx hb dL_law_571 (by decide) ?_
      exact h575 true (fun _ => (sy_eq h1 h2).trans (by rw [e_x1]; exact sy_st hc hk)) ls hl
set_option maxHeartbeats 4000000 in
set_option maxRecDepth 100000 in
theorem deed_link {p : Program} {l : Launch} {e : Env} {s : State} {m : MethodId} {below : List Frame} {meth : Method} {c9 : Code} {H : Heap} {locs : List Loc} {cells slots : Nat} {Q : State → Prop} {ls : Array Slot} {D : va_G} {b0 L : Nat} {xs : Nat → Int32} {cI cA : ClassId} {ad : Nat → Nat} {K n : Nat} {x : Nat → Nat → Int32} {sn : Nat → Int32} {i T Y c d k w : Nat} (C0 : lwC p l s m c9 b0 L xs D cI cA ad) (hG : Gd K n x) (hP : va_P D vwCl (wl ad (sF cI cA ad n x sn) 47) H) (hS : va_S (fun q => s.heap.size ≤ q) s.heap H locs) (hY : Y < 2 ^ 28) (hc : c < n) (hd : d < n) (hk : k < 2) (hw : w < 6) (hrc : cells + 2 ≤ room_1.cells) (hrs : slots + 12 ≤ room_1.slots) (hl : lv_has ls 19 [(0, .ref b0), (1, .ref (ad 0)), (2, .ref (ad 46)), (3, .int (nI 1)), (4, .int (nI T)), (5, .int (nI i)), (7, .int (nI Y)), (9, .int (nI n)), (10, .int (nI c)), (11, .int (nI d)), (12, .int (nI k)), (13, .int (nI w))]) (kk : ∀ (K' n' : Nat) (x' : Nat → Nat → Int32) (sn' : Nat → Int32) (H' : Heap) (locs' : List Loc) (ls' : Array Slot), 1 ≤ n' → Gd K' n' x' → va_P D vwCl (wl ad (sF cI cA ad n' x' sn') 47) H' → va_S (fun q => s.heap.size ≤ q) s.heap H' locs' → lv_has ls' 19 [(0, .ref b0), (1, .ref (ad 0)), (2, .ref (ad 46)), (3, .int (nI 1)), (4, .int (nI T)), (5, .int (nI i)), (7, .int (nI Y))] → W p l e room_1 s m #[Value.ref b0] below meth c9 H' locs' (cells + 2) (slots + 12) Q (F0 m 1203 ls' [])) : W p l e room_1 s m #[Value.ref b0] below meth c9 H locs cells slots Q (F0 m 661 ls []) := by
  obtain ⟨hx, hb, hF, hK, hD, hT, hXF, hC, hlt, hX, hbl, hL⟩ := C0
  have hown : s.vm.findClass RL = some m.cls := hF.2.2.2.1
  have hts := hF.2.2.2.2
  have hn := hG.n24
  by_cases hcd : c = d
  · rw [← hcd] at hl
    refine lv_aload_n hx hb dL_law_661 rfl (lv_at hl 1 rfl) ?_
    refine lv_iload hx hb dL_law_662 (lv_at hl 8 rfl) ?_
    refine k_Ri (va_runV (As := [.int (nI c)]) (rest := []) hF (c_X3_group l D cI cA ad n x c (by omega) (by omega)) (cwV 1 hts gL_law_X3_group rfl rfl rfl (by decide +kernel) ⟨(Nat.le_of_ble_eq_true rfl), (Nat.le_of_ble_eq_true rfl)⟩) (k_pre (sP_c hP) hK (sD_c hD) hT (k := 0) (by decide) cF_0 rfl) rfl rfl hl.1 rfl (lv_room (Nat.le_of_ble_eq_true rfl)) dL_law_664 ⟨(by omega), (by omega)⟩) ?_
    refine lv_istore (lv' := [(14, .int (x 9 c)), (0, .ref b0), (1, .ref (ad 0)), (2, .ref (ad 46)), (3, .int (nI 1)), (4, .int (nI T)), (5, .int (nI i)), (7, .int (nI Y)), (9, .int (nI n)), (10, .int (nI c)), (11, .int (nI c)), (12, .int (nI k)), (13, .int (nI w))]) hx hb dL_law_667 hl (by decide) rfl (fun ls hl => ?_)
    refine lv_aload_n hx hb dL_law_669 rfl (lv_at hl 2 rfl) ?_
    refine lv_iload hx hb dL_law_670 (lv_at hl 10 rfl) ?_
    refine k_Ri (va_runV (As := [.int (nI c)]) (rest := []) hF (c_X3_group l D cI cA ad n x c (by omega) (by omega)) (cwV 1 hts gL_law_X3_group rfl rfl rfl (by decide +kernel) ⟨(Nat.le_of_ble_eq_true rfl), (Nat.le_of_ble_eq_true rfl)⟩) (k_pre (sP_c hP) hK (sD_c hD) hT (k := 0) (by decide) cF_0 rfl) rfl rfl hl.1 rfl (lv_room (Nat.le_of_ble_eq_true rfl)) dL_law_672 ⟨(by omega), (by omega)⟩) ?_
    refine lv_istore (lv' := [(15, .int (x 9 c)), (14, .int (x 9 c)), (0, .ref b0), (1, .ref (ad 0)), (2, .ref (ad 46)), (3, .int (nI 1)), (4, .int (nI T)), (5, .int (nI i)), (7, .int (nI Y)), (9, .int (nI n)), (10, .int (nI c)), (11, .int (nI c)), (12, .int (nI k)), (13, .int (nI w))]) hx hb dL_law_675 hl (by decide) rfl (fun ls hl => ?_)
    refine lv_aload_n hx hb dL_law_677 rfl (lv_at hl 3 rfl) ?_
    refine lv_iload hx hb dL_law_678 (lv_at hl 10 rfl) ?_
    refine lv_iload hx hb dL_law_680 (lv_at hl 11 rfl) ?_
    refine k_O (vx_runSW (As := [.ref (ad 0), .int (nI c), .int (nI c)]) (rest := []) hF (w_links_Tc l D cI cA ad n x c hlt (by omega) (by omega)) (vx_cwSW 3 hts gL_law_L_links rfl rfl rfl (by decide +kernel) ⟨(Nat.le_of_ble_eq_true rfl), (Nat.le_of_ble_eq_true rfl)⟩) (w_pre hK hD hT hXF hC hP hS) rfl rfl hl.1 rfl (lv_room (Nat.le_of_ble_eq_true rfl)) dL_law_682 ⟨(by omega), (by omega)⟩) hD hP hS (fun H locs hP hS => ?_)
    refine lv_istore (lv' := [(16, .int ((-2))), (15, .int (x 9 c)), (14, .int (x 9 c)), (0, .ref b0), (1, .ref (ad 0)), (2, .ref (ad 46)), (3, .int (nI 1)), (4, .int (nI T)), (5, .int (nI i)), (7, .int (nI Y)), (9, .int (nI n)), (10, .int (nI c)), (11, .int (nI c)), (12, .int (nI k)), (13, .int (nI w))]) hx hb dL_law_685 hl (by decide) rfl (fun ls hl => ?_)
    refine lv_iload hx hb dL_law_687 (lv_at hl 11 rfl) ?_
    refine lv_iload hx hb dL_law_689 (lv_at hl 12 rfl) ?_
    refine r_cneN (a := c) (b := c) (tgt := 709) hx hb (by omega) (by omega) dL_law_691 (by decide) (fun h => absurd rfl h) (fun _ => ?_)
    refine lv_iload hx hb dL_law_694 (lv_at hl 0 rfl) ?_
    refine lv_bipush (v := (-2)) hx hb dL_law_696 (by decide) ?_
    refine lv_icmp_ne (tgt := 705) hx hb dL_law_698 (by decide) (fun h => absurd rfl h) (fun _ => ?_)
    refine lv_iconst (v := nI 1) hx hb dL_law_701 (by decide) ?_
    refine lv_goto (tgt := 777) hx hb dL_law_702 (by decide) ?_
    refine lv_istore_n (lv' := [(3, .int (nI 1)), (16, .int ((-2))), (15, .int (x 9 c)), (14, .int (x 9 c)), (0, .ref b0), (1, .ref (ad 0)), (2, .ref (ad 46)), (4, .int (nI T)), (5, .int (nI i)), (7, .int (nI Y)), (9, .int (nI n)), (10, .int (nI c)), (11, .int (nI c)), (12, .int (nI k)), (13, .int (nI w))]) hx hb dL_law_777 rfl hl (by decide) rfl (fun ls hl => ?_)
    refine lv_goto (tgt := 1203) hx hb dL_law_778 (by decide) ?_
    exact W.widen (k := cells + 2) (n := slots + 12) (by omega) (by omega) (kk K n x sn H locs ls (by omega) hG hP hS (lv_sub hl [4, 5, 6, 0, 7, 8, 9] rfl))
  · rcases Bool.eq_false_or_eq_true (hasB (x 8 c) d) with hlk | hlk
    · refine lv_aload_n hx hb dL_law_661 rfl (lv_at hl 1 rfl) ?_
      refine lv_iload hx hb dL_law_662 (lv_at hl 8 rfl) ?_
      refine k_Ri (va_runV (As := [.int (nI c)]) (rest := []) hF (c_X3_group l D cI cA ad n x c (by omega) (by omega)) (cwV 1 hts gL_law_X3_group rfl rfl rfl (by decide +kernel) ⟨(Nat.le_of_ble_eq_true rfl), (Nat.le_of_ble_eq_true rfl)⟩) (k_pre (sP_c hP) hK (sD_c hD) hT (k := 0) (by decide) cF_0 rfl) rfl rfl hl.1 rfl (lv_room (Nat.le_of_ble_eq_true rfl)) dL_law_664 ⟨(by omega), (by omega)⟩) ?_
      refine lv_istore (lv' := [(14, .int (x 9 c)), (0, .ref b0), (1, .ref (ad 0)), (2, .ref (ad 46)), (3, .int (nI 1)), (4, .int (nI T)), (5, .int (nI i)), (7, .int (nI Y)), (9, .int (nI n)), (10, .int (nI c)), (11, .int (nI d)), (12, .int (nI k)), (13, .int (nI w))]) hx hb dL_law_667 hl (by decide) rfl (fun ls hl => ?_)
      refine lv_aload_n hx hb dL_law_669 rfl (lv_at hl 2 rfl) ?_
      refine lv_iload hx hb dL_law_670 (lv_at hl 10 rfl) ?_
      refine k_Ri (va_runV (As := [.int (nI d)]) (rest := []) hF (c_X3_group l D cI cA ad n x d (by omega) (by omega)) (cwV 1 hts gL_law_X3_group rfl rfl rfl (by decide +kernel) ⟨(Nat.le_of_ble_eq_true rfl), (Nat.le_of_ble_eq_true rfl)⟩) (k_pre (sP_c hP) hK (sD_c hD) hT (k := 0) (by decide) cF_0 rfl) rfl rfl hl.1 rfl (lv_room (Nat.le_of_ble_eq_true rfl)) dL_law_672 ⟨(by omega), (by omega)⟩) ?_
      refine lv_istore (lv' := [(15, .int (x 9 d)), (14, .int (x 9 c)), (0, .ref b0), (1, .ref (ad 0)), (2, .ref (ad 46)), (3, .int (nI 1)), (4, .int (nI T)), (5, .int (nI i)), (7, .int (nI Y)), (9, .int (nI n)), (10, .int (nI c)), (11, .int (nI d)), (12, .int (nI k)), (13, .int (nI w))]) hx hb dL_law_675 hl (by decide) rfl (fun ls hl => ?_)
      refine lv_aload_n hx hb dL_law_677 rfl (lv_at hl 3 rfl) ?_
      refine lv_iload hx hb dL_law_678 (lv_at hl 10 rfl) ?_
      refine lv_iload hx hb dL_law_680 (lv_at hl 11 rfl) ?_
      refine k_O (vx_runSW (As := [.ref (ad 0), .int (nI c), .int (nI d)]) (rest := []) hF (w_links_Td l D cI cA ad n x c d hlt (by omega) (by omega) hcd (by omega) hlk) (vx_cwSW 3 hts gL_law_L_links rfl rfl rfl (by decide +kernel) ⟨(Nat.le_of_ble_eq_true rfl), (Nat.le_of_ble_eq_true rfl)⟩) (w_pre hK hD hT hXF hC hP hS) rfl rfl hl.1 rfl (lv_room (Nat.le_of_ble_eq_true rfl)) dL_law_682 ⟨(by omega), (by omega)⟩) hD hP hS (fun H locs hP hS => ?_)
      refine lv_istore (lv' := [(16, .int ((-3))), (15, .int (x 9 d)), (14, .int (x 9 c)), (0, .ref b0), (1, .ref (ad 0)), (2, .ref (ad 46)), (3, .int (nI 1)), (4, .int (nI T)), (5, .int (nI i)), (7, .int (nI Y)), (9, .int (nI n)), (10, .int (nI c)), (11, .int (nI d)), (12, .int (nI k)), (13, .int (nI w))]) hx hb dL_law_685 hl (by decide) rfl (fun ls hl => ?_)
      refine lv_iload hx hb dL_law_687 (lv_at hl 11 rfl) ?_
      refine lv_iload hx hb dL_law_689 (lv_at hl 12 rfl) ?_
      refine r_cneN (a := c) (b := d) (tgt := 709) hx hb (by omega) (by omega) dL_law_691 (by decide) (fun _ => ?_) (fun h => absurd h hcd)
      refine lv_iload hx hb dL_law_709 (lv_at hl 0 rfl) ?_
      refine lv_bipush (v := (-3)) hx hb dL_law_711 (by decide) ?_
      refine lv_icmp_ne (tgt := 731) hx hb dL_law_713 (by decide) (fun h => absurd rfl h) (fun _ => ?_)
      refine lv_iload hx hb dL_law_716 (lv_at hl 2 rfl) ?_
      refine lv_iload hx hb dL_law_718 (lv_at hl 1 rfl) ?_
      refine lv_icmp_ne (tgt := 727) hx hb dL_law_720 (by decide) (fun h => absurd (hG.linked hc hd hlk) h) (fun _ => ?_)
      refine lv_iconst (v := nI 1) hx hb dL_law_723 (by decide) ?_
      refine lv_goto (tgt := 777) hx hb dL_law_724 (by decide) ?_
      refine lv_istore_n (lv' := [(3, .int (nI 1)), (16, .int ((-3))), (15, .int (x 9 d)), (14, .int (x 9 c)), (0, .ref b0), (1, .ref (ad 0)), (2, .ref (ad 46)), (4, .int (nI T)), (5, .int (nI i)), (7, .int (nI Y)), (9, .int (nI n)), (10, .int (nI c)), (11, .int (nI d)), (12, .int (nI k)), (13, .int (nI w))]) hx hb dL_law_777 rfl hl (by decide) rfl (fun ls hl => ?_)
      refine lv_goto (tgt := 1203) hx hb dL_law_778 (by decide) ?_
      exact W.widen (k := cells + 2) (n := slots + 12) (by omega) (by omega) (kk K n x sn H locs ls (by omega) hG hP hS (lv_sub hl [4, 5, 6, 0, 7, 8, 9] rfl))
    · obtain ⟨j, hj, ej⟩ := bc_nat (conX x c d 9 c)
      refine lv_aload_n hx hb dL_law_661 rfl (lv_at hl 1 rfl) ?_
      refine lv_iload hx hb dL_law_662 (lv_at hl 8 rfl) ?_
      refine k_Ri (va_runV (As := [.int (nI c)]) (rest := []) hF (c_X3_group l D cI cA ad n x c (by omega) (by omega)) (cwV 1 hts gL_law_X3_group rfl rfl rfl (by decide +kernel) ⟨(Nat.le_of_ble_eq_true rfl), (Nat.le_of_ble_eq_true rfl)⟩) (k_pre (sP_c hP) hK (sD_c hD) hT (k := 0) (by decide) cF_0 rfl) rfl rfl hl.1 rfl (lv_room (Nat.le_of_ble_eq_true rfl)) dL_law_664 ⟨(by omega), (by omega)⟩) ?_
      refine lv_istore (lv' := [(14, .int (x 9 c)), (0, .ref b0), (1, .ref (ad 0)), (2, .ref (ad 46)), (3, .int (nI 1)), (4, .int (nI T)), (5, .int (nI i)), (7, .int (nI Y)), (9, .int (nI n)), (10, .int (nI c)), (11, .int (nI d)), (12, .int (nI k)), (13, .int (nI w))]) hx hb dL_law_667 hl (by decide) rfl (fun ls hl => ?_)
      refine lv_aload_n hx hb dL_law_669 rfl (lv_at hl 2 rfl) ?_
      refine lv_iload hx hb dL_law_670 (lv_at hl 10 rfl) ?_
      refine k_Ri (va_runV (As := [.int (nI d)]) (rest := []) hF (c_X3_group l D cI cA ad n x d (by omega) (by omega)) (cwV 1 hts gL_law_X3_group rfl rfl rfl (by decide +kernel) ⟨(Nat.le_of_ble_eq_true rfl), (Nat.le_of_ble_eq_true rfl)⟩) (k_pre (sP_c hP) hK (sD_c hD) hT (k := 0) (by decide) cF_0 rfl) rfl rfl hl.1 rfl (lv_room (Nat.le_of_ble_eq_true rfl)) dL_law_672 ⟨(by omega), (by omega)⟩) ?_
      refine lv_istore (lv' := [(15, .int (x 9 d)), (14, .int (x 9 c)), (0, .ref b0), (1, .ref (ad 0)), (2, .ref (ad 46)), (3, .int (nI 1)), (4, .int (nI T)), (5, .int (nI i)), (7, .int (nI Y)), (9, .int (nI n)), (10, .int (nI c)), (11, .int (nI d)), (12, .int (nI k)), (13, .int (nI w))]) hx hb dL_law_675 hl (by decide) rfl (fun ls hl => ?_)
      refine lv_aload_n hx hb dL_law_677 rfl (lv_at hl 3 rfl) ?_
      refine lv_iload hx hb dL_law_678 (lv_at hl 10 rfl) ?_
      refine lv_iload hx hb dL_law_680 (lv_at hl 11 rfl) ?_
      refine k_O (vx_runSW (As := [.ref (ad 0), .int (nI c), .int (nI d)]) (rest := []) hF (w_links_0 l D cI cA ad n x c d (by omega) (by omega) hcd (by omega) hlk) (vx_cwSW 3 hts gL_law_L_links rfl rfl rfl (by decide +kernel) ⟨(Nat.le_of_ble_eq_true rfl), (Nat.le_of_ble_eq_true rfl)⟩) (w_pre hK hD hT hXF hC hP hS) rfl rfl hl.1 rfl (lv_room (Nat.le_of_ble_eq_true rfl)) dL_law_682 ⟨(by omega), (by omega)⟩) hD hP hS (fun H locs hP hS => ?_)
      refine r_topi (show (bc (conX x c d 9 c) : Int32) = nI j from ej) ?_
      obtain ⟨x1, e_x1⟩ : ∃ x1, x1 = conX x c d := ⟨_, rfl⟩
      rw [← e_x1] at hP
      refine lv_istore (lv' := [(16, .int (nI j)), (15, .int (x 9 d)), (14, .int (x 9 c)), (0, .ref b0), (1, .ref (ad 0)), (2, .ref (ad 46)), (3, .int (nI 1)), (4, .int (nI T)), (5, .int (nI i)), (7, .int (nI Y)), (9, .int (nI n)), (10, .int (nI c)), (11, .int (nI d)), (12, .int (nI k)), (13, .int (nI w))]) hx hb dL_law_685 hl (by decide) rfl (fun ls hl => ?_)
      refine lv_iload hx hb dL_law_687 (lv_at hl 11 rfl) ?_
      refine lv_iload hx hb dL_law_689 (lv_at hl 12 rfl) ?_
      refine r_cneN (a := c) (b := d) (tgt := 709) hx hb (by omega) (by omega) dL_law_691 (by decide) (fun _ => ?_) (fun h => absurd h hcd)
      refine lv_iload hx hb dL_law_709 (lv_at hl 0 rfl) ?_
      refine lv_bipush (v := (-3)) hx hb dL_law_711 (by decide) ?_
      refine lv_icmp_ne (tgt := 731) hx hb dL_law_713 (by decide) (fun _ => ?_) (fun h => absurd h (nI_m3 (by omega)))
      refine lv_aload_n hx hb dL_law_731 rfl (lv_at hl 4 rfl) ?_
      refine lv_iload hx hb dL_law_732 (lv_at hl 11 rfl) ?_
      refine k_Ri (va_runV (As := [.int (nI c)]) (rest := []) hF (c_X3_group l D cI cA ad n x1 c (by omega) (by omega)) (cwV 1 hts gL_law_X3_group rfl rfl rfl (by decide +kernel) ⟨(Nat.le_of_ble_eq_true rfl), (Nat.le_of_ble_eq_true rfl)⟩) (k_pre (sP_c hP) hK (sD_c hD) hT (k := 0) (by decide) cF_0 rfl) rfl rfl hl.1 rfl (lv_room (Nat.le_of_ble_eq_true rfl)) dL_law_734 ⟨(by omega), (by omega)⟩) ?_
      refine r_topi (show (x1 9 c : Int32) = (x 9 c) ||| (x 9 d) from by rw [e_x1]; exact (hG.con hc hd hcd).1) ?_
      refine lv_iload hx hb dL_law_737 (lv_at hl 2 rfl) ?_
      refine lv_iload hx hb dL_law_739 (lv_at hl 1 rfl) ?_
      refine lv_ior hx hb dL_law_741 ?_
      refine lv_icmp_ne (tgt := 776) hx hb dL_law_742 (by decide) (fun h => absurd rfl h) (fun _ => ?_)
      refine lv_aload_n hx hb dL_law_745 rfl (lv_at hl 4 rfl) ?_
      refine lv_iload hx hb dL_law_746 (lv_at hl 12 rfl) ?_
      refine k_Ri (va_runV (As := [.int (nI d)]) (rest := []) hF (c_X3_group l D cI cA ad n x1 d (by omega) (by omega)) (cwV 1 hts gL_law_X3_group rfl rfl rfl (by decide +kernel) ⟨(Nat.le_of_ble_eq_true rfl), (Nat.le_of_ble_eq_true rfl)⟩) (k_pre (sP_c hP) hK (sD_c hD) hT (k := 0) (by decide) cF_0 rfl) rfl rfl hl.1 rfl (lv_room (Nat.le_of_ble_eq_true rfl)) dL_law_748 ⟨(by omega), (by omega)⟩) ?_
      refine r_topi (show (x1 9 d : Int32) = (x 9 c) ||| (x 9 d) from by rw [e_x1]; exact (hG.con hc hd hcd).2.1) ?_
      refine lv_iload hx hb dL_law_751 (lv_at hl 2 rfl) ?_
      refine lv_iload hx hb dL_law_753 (lv_at hl 1 rfl) ?_
      refine lv_ior hx hb dL_law_755 ?_
      refine lv_icmp_ne (tgt := 776) hx hb dL_law_756 (by decide) (fun h => absurd rfl h) (fun _ => ?_)
      refine lv_aload_n hx hb dL_law_759 rfl (lv_at hl 4 rfl) ?_
      refine lv_iload hx hb dL_law_760 (lv_at hl 12 rfl) ?_
      refine lv_iload hx hb dL_law_762 (lv_at hl 11 rfl) ?_
      refine k_O (vx_runSW (As := [.ref (ad 0), .int (nI d), .int (nI c)]) (rest := []) hF (w_links_Td l D cI cA ad n x1 d c hlt (by omega) (by omega) (Ne.symm hcd) (by omega) (by rw [e_x1]; exact (hG.con hc hd hcd).2.2)) (vx_cwSW 3 hts gL_law_L_links rfl rfl rfl (by decide +kernel) ⟨(Nat.le_of_ble_eq_true rfl), (Nat.le_of_ble_eq_true rfl)⟩) (w_pre hK hD hT hXF hC hP hS) rfl rfl hl.1 rfl (lv_room (Nat.le_of_ble_eq_true rfl)) dL_law_764 ⟨(by omega), (by omega)⟩) hD hP hS (fun H locs hP hS => ?_)
      refine lv_bipush (v := (-3)) hx hb dL_law_767 (by decide) ?_
      refine lv_icmp_ne (tgt := 776) hx hb dL_law_769 (by decide) (fun h => absurd rfl h) (fun _ => ?_)
      refine lv_iconst (v := nI 1) hx hb dL_law_772 (by decide) ?_
      refine lv_goto (tgt := 777) hx hb dL_law_773 (by decide) ?_
      refine lv_istore_n (lv' := [(3, .int (nI 1)), (16, .int (nI j)), (15, .int (x 9 d)), (14, .int (x 9 c)), (0, .ref b0), (1, .ref (ad 0)), (2, .ref (ad 46)), (4, .int (nI T)), (5, .int (nI i)), (7, .int (nI Y)), (9, .int (nI n)), (10, .int (nI c)), (11, .int (nI d)), (12, .int (nI k)), (13, .int (nI w))]) hx hb dL_law_777 rfl hl (by decide) rfl (fun ls hl => ?_)
      refine lv_goto (tgt := 1203) hx hb dL_law_778 (by decide) ?_
      exact W.widen (k := cells + 2) (n := slots + 12) (by omega) (by omega) (kk K n x1 sn H locs ls (by omega) (by rw [e_x1]; exact Gd_link hG hc hd hcd) hP hS (lv_sub hl [4, 5, 6, 0, 7, 8, 9] rfl))
