/-! the loop -/
set_option maxHeartbeats 4000000 in
set_option maxRecDepth 100000 in
theorem law_loop {p : Program} {l : Launch} {e : Env} {s : State} {m : MethodId} {below : List Frame} {meth : Method} {c9 : Code} {Q : State → Prop} {D : va_G} {b0 L : Nat} {xs : Nat → Int32} {cI cA cL : ClassId} {ad am : Nat → Nat} (C0 : lwC p l s m c9 b0 L xs D cI cA cL ad am) (hend : ∀ (H : Heap) (cells slots : Nat) (ls : Array Slot), va_S (fun q => s.heap.size ≤ q) s.heap H [] → cells ≤ 601024 → slots ≤ 7293034 → W p l e room_1 s m #[Value.ref b0] below meth c9 H [] cells slots Q (F0 m 1447 ls [])) : ∀ (f i K n : Nat) (x y : Nat → Nat → Int32) (o : Nat → Int64) (th : Int32) (H : Heap) (ls : Array Slot) (cells slots : Nat), L ≤ i + 5 * f + 4 → i ≤ 2560 → K + 216 * f < 2 ^ 30 → cells + f ≤ 601024 → slots + 6 * f ≤ 7293034 → lwS s D cI cA cL ad am K n x y o th H → lv_has ls 7 [(0, .ref b0), (1, .ref (ad 0)), (2, .ref (am 0)), (3, .ref (ad 46)), (4, .int (nI i))] → W p l e room_1 s m #[Value.ref b0] below meth c9 H [] cells slots Q (F0 m 23 ls []) := by
  obtain ⟨hx, hb, hF, hK, hDo, hDm, hdis, hT, hXF, hC, hlt, hX, hbl, hL⟩ := id C0
  intro f
  induction f with
  | zero =>
    intro i K n x y o th H ls cells slots hf hi25 hKf hcf hsf S0 hl
    have hS := S0.2.2.1
    refine lv_iload hx hb dL_law_23 (lv_at hl 4 rfl) ?_
    refine lv_aload_n hx hb dL_law_25 rfl (lv_at hl 0 rfl) ?_
    refine va_slen hx hb hX hbl (Nat.not_le.mpr hbl) hS dL_law_26 ?_
    refine lv_iconst (v := nI 5) hx hb dL_law_27 (by decide) ?_
    refine lv_isub hx hb dL_law_28 ?_
    refine lv_icmp_gt (tgt := 1447) hx hb dL_law_29 (by decide) (fun _ => hend H cells slots ls hS (by omega) (by omega)) (fun h5 => ?_)
    have hi5 := cmp5 hL hi25 h5
    omega
  | succ f ih =>
    intro i K n x y o th H ls cells slots hf hi25 hKf hcf hsf S0 hl
    have hS := S0.2.2.1
    refine lv_iload hx hb dL_law_23 (lv_at hl 4 rfl) ?_
    refine lv_aload_n hx hb dL_law_25 rfl (lv_at hl 0 rfl) ?_
    refine va_slen hx hb hX hbl (Nat.not_le.mpr hbl) hS dL_law_26 ?_
    refine lv_iconst (v := nI 5) hx hb dL_law_27 (by decide) ?_
    refine lv_isub hx hb dL_law_28 ?_
    refine lv_icmp_gt (tgt := 1447) hx hb dL_law_29 (by decide) (fun _ => hend H cells slots ls hS (by omega) (by omega)) (fun h5 => ?_)
    have hi5 := cmp5 hL hi25 h5
    have kk : ∀ (K' n' : Nat) (x' y' : Nat → Nat → Int32) (o' : Nat → Int64) (th' : Int32) (H' : Heap) (ls' : Array Slot), K' ≤ K + 216 → lwS s D cI cA cL ad am K' n' x' y' o' th' H' → lv_has ls' 7 [(0, .ref b0), (1, .ref (ad 0)), (2, .ref (am 0)), (3, .ref (ad 46)), (4, .int (nI i))] → W p l e room_1 s m #[Value.ref b0] below meth c9 H' [] (cells + 1) (slots + 6) Q (F0 m 1441 ls' []) := by
      intro K' n' x' y' o' th' H' ls' hK' S' hl'
      refine r_iincN (k := 4) (r := i + 5) (lv' := [(4, .int (nI (i + 5))), (0, .ref b0), (1, .ref (ad 0)), (2, .ref (am 0)), (3, .ref (ad 46))]) hx hb dL_law_1441 hl' rfl rfl (by decide) rfl (fun ls hl => ?_)
      refine lv_goto (tgt := 23) hx hb dL_law_1444 (by decide) ?_
      exact ih (i + 5) K' n' x' y' o' th' H' _ _ _ (by omega) (by omega) (by omega) (by omega) (by omega) S' (lv_sub hl [1, 2, 3, 4, 0] rfl)
    refine lv_aload_n hx hb dL_law_32 rfl (lv_at hl 0 rfl) ?_
    refine lv_iload hx hb dL_law_33 (lv_at hl 4 rfl) ?_
    refine r_sld hx hb hX hbl hL hS (i := i) (by omega) rfl dL_law_35 ?_
    refine lv_bipush (v := nI 31) hx hb dL_law_36 (by decide) ?_
    refine lv_iand hx hb dL_law_38 ?_
    obtain ⟨t, ht, et⟩ := and31 (xs i)
    rw [et]
    have hroom : cells + 1 ≤ room_1.cells ∧ slots + 6 ≤ room_1.slots := ⟨by show cells + 1 ≤ 601024; omega, by show slots + 6 ≤ 7293034; omega⟩
    have hK30 : K < 2 ^ 30 := by omega
    have hi4 : i + 4 < L := by omega
    rcases (by omega : t = 0 ∨ t = 1 ∨ t = 2 ∨ t = 3 ∨ t = 4 ∨ t = 5 ∨ t = 6 ∨ t = 7 ∨ t = 8 ∨ t = 9 ∨ t = 10 ∨ t = 11 ∨ t = 12 ∨ t = 13 ∨ t = 14 ∨ t = 15 ∨ t = 16 ∨ t = 17 ∨ t = 18 ∨ t = 19 ∨ t = 20 ∨ 21 ≤ t) with rfl | rfl | rfl | rfl | rfl | rfl | rfl | rfl | rfl | rfl | rfl | rfl | rfl | rfl | rfl | rfl | rfl | rfl | rfl | rfl | rfl | h21
    · exact lv_tableIn (off := 97) (tgt := 136) hx hb dL_law_39 (by decide +kernel) (by decide +kernel) (by decide +kernel) (by decide) (op_add C0 S0 hK30 hroom hi4 hl kk)
    · exact lv_tableIn (off := 165) (tgt := 204) hx hb dL_law_39 (by decide +kernel) (by decide +kernel) (by decide +kernel) (by decide) (op_turn C0 S0 hK30 hroom hi4 hl kk)
    · exact lv_tableIn (off := 264) (tgt := 303) hx hb dL_law_39 (by decide +kernel) (by decide +kernel) (by decide +kernel) (by decide) (op_rename C0 S0 hK30 hroom hi4 hl kk)
    · exact lv_tableIn (off := 344) (tgt := 383) hx hb dL_law_39 (by decide +kernel) (by decide +kernel) (by decide +kernel) (by decide) (op_sync C0 S0 hK30 hroom hi4 hl kk)
    · exact lv_tableIn (off := 400) (tgt := 439) hx hb dL_law_39 (by decide +kernel) (by decide +kernel) (by decide +kernel) (by decide) (op_cards C0 S0 hK30 hroom hi4 hl kk)
    · exact lv_tableIn (off := 413) (tgt := 452) hx hb dL_law_39 (by decide +kernel) (by decide +kernel) (by decide +kernel) (by decide) (op_values C0 S0 hK30 hroom hi4 hl kk)
    · exact lv_tableIn (off := 493) (tgt := 532) hx hb dL_law_39 (by decide +kernel) (by decide +kernel) (by decide +kernel) (by decide) (op_nameOf C0 S0 hK30 hroom hi4 hl kk)
    · exact lv_tableIn (off := 561) (tgt := 600) hx hb dL_law_39 (by decide +kernel) (by decide +kernel) (by decide +kernel) (by decide) (op_merged C0 S0 hK30 hroom hi4 hl kk)
    · exact lv_tableIn (off := 629) (tgt := 668) hx hb dL_law_39 (by decide +kernel) (by decide +kernel) (by decide +kernel) (by decide) (op_mergedByValues C0 S0 hK30 hroom hi4 hl kk)
    · exact lv_tableIn (off := 697) (tgt := 736) hx hb dL_law_39 (by decide +kernel) (by decide +kernel) (by decide +kernel) (by decide) (op_unsynced C0 S0 hK30 hroom hi4 hl kk)
    · exact lv_tableIn (off := 753) (tgt := 792) hx hb dL_law_39 (by decide +kernel) (by decide +kernel) (by decide +kernel) (by decide) (op_link C0 S0 hK30 hroom hi4 hl kk)
    · exact lv_tableIn (off := 821) (tgt := 860) hx hb dL_law_39 (by decide +kernel) (by decide +kernel) (by decide +kernel) (by decide) (op_cut C0 S0 hK30 hroom hi4 hl kk)
    · exact lv_tableIn (off := 896) (tgt := 935) hx hb dL_law_39 (by decide +kernel) (by decide +kernel) (by decide +kernel) (by decide) (op_group C0 S0 hK30 hroom hi4 hl kk)
    · exact lv_tableIn (off := 952) (tgt := 991) hx hb dL_law_39 (by decide +kernel) (by decide +kernel) (by decide +kernel) (by decide) (op_groups C0 S0 hK30 hroom hi4 hl kk)
    · exact lv_tableIn (off := 965) (tgt := 1004) hx hb dL_law_39 (by decide +kernel) (by decide +kernel) (by decide +kernel) (by decide) (op_preferred C0 S0 hK30 hroom hi4 hl kk)
    · exact lv_tableIn (off := 1021) (tgt := 1060) hx hb dL_law_39 (by decide +kernel) (by decide +kernel) (by decide +kernel) (by decide) (op_shown C0 S0 hK30 hroom hi4 hl kk)
    · exact lv_tableIn (off := 1089) (tgt := 1128) hx hb dL_law_39 (by decide +kernel) (by decide +kernel) (by decide +kernel) (by decide) (op_edit C0 S0 hK30 hroom hi4 hl kk)
    · exact lv_tableIn (off := 1169) (tgt := 1208) hx hb dL_law_39 (by decide +kernel) (by decide +kernel) (by decide +kernel) (by decide) (op_score C0 S0 hK30 hroom hi4 hl kk)
    · exact lv_tableIn (off := 1237) (tgt := 1276) hx hb dL_law_39 (by decide +kernel) (by decide +kernel) (by decide +kernel) (by decide) (op_pairs C0 S0 hK30 hroom hi4 hl kk)
    · exact lv_tableIn (off := 1250) (tgt := 1289) hx hb dL_law_39 (by decide +kernel) (by decide +kernel) (by decide +kernel) (by decide) (op_pairAt C0 S0 hK30 hroom hi4 hl kk)
    · exact lv_tableIn (off := 1306) (tgt := 1345) hx hb dL_law_39 (by decide +kernel) (by decide +kernel) (by decide +kernel) (by decide) (op_turnDown C0 S0 hK30 hroom hi4 hl kk)
    · refine lv_tableOut (tgt := 1441) hx hb dL_law_39 (Or.inr ?_) (by decide) ?_
      · rw [nI_toInt (by omega)]; omega
      · exact W.widen (k := cells + 1) (n := slots + 6) (Nat.le_succ _) (Nat.le_add_right _ _) (kk K n x y o th H ls (by omega) S0 hl)
