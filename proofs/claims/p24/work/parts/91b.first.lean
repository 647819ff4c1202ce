set_option maxHeartbeats 4000000 in
set_option maxRecDepth 100000 in
theorem law_first {p : Program} {l : Launch} {e : Env} {s : State} {m : MethodId} {below : List Frame} {meth : Method} {c9 : Code} {Q : State → Prop} {D : va_G} {b0 L : Nat} {xs : Nat → Int32} {cI cA : ClassId} {ad : Nat → Nat} {sn : Nat → Int32} {H : Heap} {locs : List Loc} {ls : Array Slot} {cells slots : Nat} (C0 : lwC p l s m c9 b0 L xs D cI cA ad) (hend : ∀ (H : Heap) (locs : List Loc) (cells slots : Nat) (ls : Array Slot), va_S (fun q => s.heap.size ≤ q) s.heap H locs → cells ≤ 600104 → slots ≤ 7301314 → lv_has ls 19 [(3, .int (nI 1))] → W p l e room_1 s m #[Value.ref b0] below meth c9 H locs cells slots Q (F0 m 1274 ls [])) (hP : va_P D vwCl (wl ad (sF cI cA ad 0 x0 sn) 47) H) (hS : va_S (fun q => s.heap.size ≤ q) s.heap H locs) (hcs : cells + 1000 ≤ 600104) (hss : slots + 10000 ≤ 7301314) (hl : lv_has ls 19 [(2, .ref (ad 46)), (1, .ref (ad 0)), (0, .ref b0)]) : W p l e room_1 s m #[Value.ref b0] below meth c9 H locs cells slots Q (F0 m 13 ls []) := by
  obtain ⟨hx, hb, hF, hK, hD, hT, hXF, hC, hlt, hX, hbl, hL⟩ := id C0
  have hown : s.vm.findClass RL = some m.cls := hF.2.2.2.1
  have hts := hF.2.2.2.2
  have hrm : room_1.cells = 600104 := rfl
  have hrm2 : room_1.slots = 7301314 := rfl
  refine lv_aload_n hx hb dL_law_13 rfl (lv_at hl 1 rfl) ?_
  refine lv_aload_n hx hb dL_law_14 rfl (lv_at hl 0 rfl) ?_
  refine k_E (va_runS (As := [.ref (ad 0), .ref (ad 46)]) (rest := []) hF (c_L_arePairs l D cI cA ad 0 x0 0 sn hlt Gd_start) (va_cwS 2 hts gL_law_L_arePairs rfl rfl rfl (by decide +kernel) ⟨(Nat.le_of_ble_eq_true rfl), (Nat.le_of_ble_eq_true rfl)⟩) (e_pre hK hD hT hXF hC hP hS) rfl rfl hl.1 rfl (lv_room (Nat.le_of_ble_eq_true rfl)) dL_law_15 ⟨(by omega), (by omega)⟩) hD hS (fun H locs x1 sn1 hx1 hP hS => ?_)
  refine lv_istore_n (lv' := [(3, .int (nI 1)), (2, .ref (ad 46)), (1, .ref (ad 0)), (0, .ref b0)]) hx hb dL_law_18 rfl hl (by decide) rfl (fun ls hl => ?_)
  have h49 : ∀ (T : Nat) (ls : Array Slot), T ≤ 240 → lv_has ls 19 [(3, .int (nI 1)), (2, .ref (ad 46)), (1, .ref (ad 0)), (0, .ref b0)] → W p l e room_1 s m #[Value.ref b0] below meth c9 H locs (cells + 1) (slots + 6) Q (F0 m 49 ls [.int (nI T)]) := by
    intro T ls hT hl
    refine lv_istore (lv' := [(4, .int (nI T)), (3, .int (nI 1)), (2, .ref (ad 46)), (1, .ref (ad 0)), (0, .ref b0)]) hx hb dL_law_49 hl (by decide) rfl (fun ls hl => ?_)
    refine lv_iconst (v := nI 0) hx hb dL_law_51 (by decide) ?_
    refine lv_istore (lv' := [(5, .int (nI 0)), (4, .int (nI T)), (3, .int (nI 1)), (2, .ref (ad 46)), (1, .ref (ad 0)), (0, .ref b0)]) hx hb dL_law_52 hl (by decide) rfl (fun ls hl => ?_)
    exact law_loop C0 (by omega) hend T 0 0 0 x1 sn1 H locs ls (cells + 1) (slots + 6) (by omega) (Or.inr rfl) (Gd_start.same hx1) hP hS (by omega) (by omega) (lv_sub hl [5, 4, 3, 2, 1, 0] rfl)
  refine lv_aload_n hx hb dL_law_19 rfl (lv_at hl 3 rfl) ?_
  refine va_slen hx hb hX hbl (Nat.not_le.mpr hbl) hS dL_law_20 ?_
  refine lv_bipush (v := nI 40) hx hb dL_law_21 (by decide) ?_
  refine r_cgeN (a := L) (b := 40) (tgt := 32) hx hb (by omega) (by omega) dL_law_23 (by decide) (fun _ => ?_) (fun _ => ?_)
  · refine lv_aload_n hx hb dL_law_32 rfl (lv_at hl 3 rfl) ?_
    refine va_slen hx hb hX hbl (Nat.not_le.mpr hbl) hS dL_law_33 ?_
    refine lv_bipush (v := nI 80) hx hb dL_law_34 (by decide) ?_
    refine r_cgeN (a := L) (b := 80) (tgt := 46) hx hb (by omega) (by omega) dL_law_36 (by decide) (fun _ => ?_) (fun _ => ?_)
    · refine lv_sipush (v := nI 240) hx hb dL_law_46 (by decide) ?_
      exact h49 240 ls (by omega) (lv_sub hl [0, 1, 2, 3] rfl)
    · refine lv_iconst (v := nI 3) hx hb dL_law_39 (by decide) ?_
      refine lv_aload_n hx hb dL_law_40 rfl (lv_at hl 3 rfl) ?_
      refine va_slen hx hb hX hbl (Nat.not_le.mpr hbl) hS dL_law_41 ?_
      refine r_mulN (a := 3) (b := L) (r := 3 * L) hx hb dL_law_42 (by omega) ?_
      refine lv_goto (tgt := 49) hx hb dL_law_43 (by decide) ?_
      exact h49 (3 * L) ls (by omega) (lv_sub hl [0, 1, 2, 3] rfl)
  · refine lv_sipush (v := nI 130) hx hb dL_law_26 (by decide) ?_
    refine lv_goto (tgt := 49) hx hb dL_law_29 (by decide) ?_
    exact h49 130 ls (by omega) (lv_sub hl [0, 1, 2, 3] rfl)
