set_option maxHeartbeats 4000000 in
set_option maxRecDepth 100000 in
theorem z_link_0 {p : Program} {l : Launch} {e : Env} {s : State} {m : MethodId} {below : List Frame} {meth : Method} {c9 : Code} {H : Heap} {cells slots : Nat} {Q : State → Prop} {ls : Array Slot} {D : va_G} {b0 L : Nat} {xs : Nat → Int32} {cI cA cL : ClassId} {ad am : Nat → Nat} {K n : Nat} {x y : Nat → Nat → Int32} {o : Nat → Int64} {th : Int32} {i : Nat} (C0 : lwC p l s m c9 b0 L xs D cI cA cL ad am) (S0 : lwS s D cI cA cL ad am K n x y o th H) (hK30 : K < 2 ^ 30) (hroom : cells + 1 ≤ room_1.cells ∧ slots + 6 ≤ room_1.slots) (hi : i + 4 < L) (hl : lv_has ls 7 [(0, .ref b0), (1, .ref (ad 0)), (2, .ref (am 0)), (3, .ref (ad 46)), (4, .int (nI i))]) (c : Nat) (d : Nat) (hc : c < n) (hd : d < n) (hne : c ≠ d) (hlk : hasB (x 8 c) d = false) (e1 : xs (i + 1) = nI c) (e2 : xs (i + 2) = nI d) (kk : ∀ (K' n' : Nat) (x' y' : Nat → Nat → Int32) (o' : Nat → Int64) (th' : Int32) (H' : Heap) (ls' : Array Slot), K' ≤ K + 216 → lwS s D cI cA cL ad am K' n' x' y' o' th' H' → lv_has ls' 7 [(0, .ref b0), (1, .ref (ad 0)), (2, .ref (am 0)), (3, .ref (ad 46)), (4, .int (nI i))] → W p l e room_1 s m #[Value.ref b0] below meth c9 H' [] (cells + 1) (slots + 6) Q (F0 m 1441 ls' [])) : W p l e room_1 s m #[Value.ref b0] below meth c9 H [] cells slots Q (F0 m 792 ls []) := by
  obtain ⟨hx, hb, hF, hK, hDo, hDm, hdis, hT, hXF, hC, hlt, hX, hbl, hL⟩ := C0
  obtain ⟨hPo, hPm, hS, hR⟩ := S0
  have hn9 : n ≤ 24 := hR.n24
  have hn : n ≤ 24 := hn9
  have hts := hF.2.2.2.2
  have hKm := hK.sub (tys' := [(cI, .int), (cA, .array .int)]) [0, 1] rfl
  have hAo : ∀ q, wA ad 47 q → s.heap.size ≤ q := fun q ⟨k, hk, eq⟩ => by rw [eq]; exact hDo.2 k hk
  have hAm : ∀ q, wA am 8 q → s.heap.size ≤ q := fun q ⟨k, hk, eq⟩ => by rw [eq]; exact hDm.2 k hk
  refine lv_aload_n hx hb dL_law_792 rfl (lv_at hl 1 rfl) ?_
  refine lv_aload_n hx hb dL_law_793 rfl (lv_at hl 0 rfl) ?_
  refine lv_iload hx hb dL_law_794 (lv_at hl 4 rfl) ?_
  refine lv_iconst (v := nI 1) hx hb dL_law_796 (by decide) ?_
  refine r_addN (r := i + 1) hx hb dL_law_797 rfl ?_
  refine r_sld hx hb hX hbl hL hS (i := i + 1) (by omega) e1 dL_law_798 ?_
  refine lv_aload_n hx hb dL_law_799 rfl (lv_at hl 0 rfl) ?_
  refine lv_iload hx hb dL_law_800 (lv_at hl 4 rfl) ?_
  refine lv_iconst (v := nI 2) hx hb dL_law_802 (by decide) ?_
  refine r_addN (r := i + 2) hx hb dL_law_803 rfl ?_
  refine r_sld hx hb hX hbl hL hS (i := i + 2) (by omega) e2 dL_law_804 ?_
  refine lv_aload_n hx hb dL_law_805 rfl (lv_at hl 3 rfl) ?_
  refine k_L (vx_runSW (As := [.ref (ad 0), .int (nI c), .int (nI d), .ref (ad 46)]) (rest := []) hF (w_link_0 l D cI cA ad n x c d cL o hc hd hne hn hlk) (vx_cwSW 4 hts gL_law_L_link rfl rfl rfl (by decide +kernel) ⟨(Nat.le_of_ble_eq_true rfl), (Nat.le_of_ble_eq_true rfl)⟩) (lw_pre hK hDo hT hXF hC hPo hS) rfl rfl hl.1 rfl (lv_room (Nat.le_of_ble_eq_true rfl)) dL_law_806 hroom) hAo (fun H1 hP1 hz hk9 => ?_)
  have hPm := lw_keep (fun j hj ⟨k, hk, eq⟩ => hdis k j hk hj eq.symm) hPm hk9
  have hS := lw_S hAo hS hz hk9
  refine lv_istore (lv' := [(5, .int (nI 0)), (0, .ref b0), (1, .ref (ad 0)), (2, .ref (am 0)), (3, .ref (ad 46)), (4, .int (nI i))]) hx hb dL_law_809 hl (by decide) rfl (fun ls hl => ?_)
  refine lv_aload_n hx hb dL_law_811 rfl (lv_at hl 3 rfl) ?_
  refine lv_aload_n hx hb dL_law_812 rfl (lv_at hl 1 rfl) ?_
  refine lv_iload hx hb dL_law_813 (lv_at hl 5 rfl) ?_
  refine lv_iconst (v := nI 1) hx hb dL_law_815 (by decide) ?_
  refine r_addN (r := i + 1) hx hb dL_law_816 rfl ?_
  refine r_sld hx hb hX hbl hL hS (i := i + 1) (by omega) e1 dL_law_817 ?_
  refine lv_aload_n hx hb dL_law_818 rfl (lv_at hl 1 rfl) ?_
  refine lv_iload hx hb dL_law_819 (lv_at hl 5 rfl) ?_
  refine lv_iconst (v := nI 2) hx hb dL_law_821 (by decide) ?_
  refine r_addN (r := i + 2) hx hb dL_law_822 rfl ?_
  refine r_sld hx hb hX hbl hL hS (i := i + 2) (by omega) e2 dL_law_823 ?_
  refine k_M (va_runV (As := [.int (nI c), .int (nI d)]) (rest := []) hF (m_link_0 l D cI cA am th n y c d (conX x c d 9 c) hc hd hne hn9 (by rw [← hR.links (by omega)]; exact hlk) (Rel_link hR hc hd hne).2.1) (cwV 2 hts gL_law_X4_link rfl rfl rfl (by decide +kernel) ⟨(Nat.le_of_ble_eq_true rfl), (Nat.le_of_ble_eq_true rfl)⟩) (k_pre hPm hKm hDm hT (k := 0) (by decide) mF_0 rfl) rfl rfl hl.1 rfl (lv_room (Nat.le_of_ble_eq_true rfl)) dL_law_824 ⟨hroom.1, hroom.2⟩) hAm (fun H2 hPm hz hk9 => ?_)
  have hPo := lw_keep (fun j hj ⟨k, hk, eq⟩ => hdis j k hj hk eq) hP1 hk9
  have hS := lw_S hAm hS hz hk9
  refine r_topi (show _ = bc (conX x c d 9 c) from (Rel_link hR hc hd hne).2.2.symm) ?_
  refine lv_istore (lv' := [(6, .int (bc (conX x c d 9 c))), (5, .int (nI 0)), (0, .ref b0), (1, .ref (ad 0)), (2, .ref (am 0)), (3, .ref (ad 46)), (4, .int (nI i))]) hx hb dL_law_827 hl (by decide) rfl (fun ls hl => ?_)
  refine lv_aload_n hx hb dL_law_829 rfl (lv_at hl 4 rfl) ?_
  refine k_Ri (va_runV (As := []) (rest := []) hF (c_X4_thrown l D cI cA am _ _ _) (cwV 0 hts gL_law_X4_thrown rfl rfl rfl (by decide +kernel) ⟨(Nat.le_of_ble_eq_true rfl), (Nat.le_of_ble_eq_true rfl)⟩) (k_pre hPm hKm hDm hT (k := 0) (by decide) mF_0 rfl) rfl rfl hl.1 rfl (lv_room (Nat.le_of_ble_eq_true rfl)) dL_law_830 ⟨hroom.1, hroom.2⟩) ?_
  refine lv_iload hx hb dL_law_833 (lv_at hl 1 rfl) ?_
  refine r_ceqN (tgt := 840) hx hb (by decide) (by decide) dL_law_835 (by decide) (fun _ => ?_) (fun h => absurd rfl h)
  refine lv_iload hx hb dL_law_840 (lv_at hl 1 rfl) ?_
  refine r_ifneN (a := 0) (tgt := 857) hx hb (by decide) dL_law_842 (by decide) (fun h => absurd rfl h) (fun _ => ?_)
  refine lv_aload_n hx hb dL_law_845 rfl (lv_at hl 5 rfl) ?_
  refine lv_iconst (v := nI 0) hx hb dL_law_846 (by decide) ?_
  refine va_lald hx hb hK hPo 46 2 (wl_at (show 46 < 47 by decide)) rfl (vp_in_nI (by decide) (by decide)) dL_law_847 ?_
  rw [oW_0 (w := (bc (conX x c d 9 c)).toInt64)]
  refine lv_iload hx hb dL_law_848 (lv_at hl 0 rfl) ?_
  refine lv_i2l hx hb dL_law_850 rfl ?_
  refine r_lcmpE hx hb dL_law_851 ?_
  refine r_ifeqN (a := 0) (tgt := 857) hx hb (by decide) dL_law_852 (by decide) (fun _ => ?_) (fun h => absurd rfl h)
  refine lv_goto (tgt := 1441) hx hb dL_law_857 (by decide) ?_
  exact kk _ _ _ _ _ _ _ _ (by omega) ⟨hPo, hPm, hS, (Rel_link hR hc hd hne).1⟩ (lv_sub hl [2, 3, 4, 5, 6] rfl)
set_option maxHeartbeats 4000000 in
set_option maxRecDepth 100000 in
theorem z_link_Ta {p : Program} {l : Launch} {e : Env} {s : State} {m : MethodId} {below : List Frame} {meth : Method} {c9 : Code} {H : Heap} {cells slots : Nat} {Q : State → Prop} {ls : Array Slot} {D : va_G} {b0 L : Nat} {xs : Nat → Int32} {cI cA cL : ClassId} {ad am : Nat → Nat} {K n : Nat} {x y : Nat → Nat → Int32} {o : Nat → Int64} {th : Int32} {i : Nat} (C0 : lwC p l s m c9 b0 L xs D cI cA cL ad am) (S0 : lwS s D cI cA cL ad am K n x y o th H) (hK30 : K < 2 ^ 30) (hroom : cells + 1 ≤ room_1.cells ∧ slots + 6 ≤ room_1.slots) (hi : i + 4 < L) (hl : lv_has ls 7 [(0, .ref b0), (1, .ref (ad 0)), (2, .ref (am 0)), (3, .ref (ad 46)), (4, .int (nI i))]) (a : Int32) (b : Int32) (hca : cardB n a = false) (e1 : xs (i + 1) = a) (e2 : xs (i + 2) = b) (kk : ∀ (K' n' : Nat) (x' y' : Nat → Nat → Int32) (o' : Nat → Int64) (th' : Int32) (H' : Heap) (ls' : Array Slot), K' ≤ K + 216 → lwS s D cI cA cL ad am K' n' x' y' o' th' H' → lv_has ls' 7 [(0, .ref b0), (1, .ref (ad 0)), (2, .ref (am 0)), (3, .ref (ad 46)), (4, .int (nI i))] → W p l e room_1 s m #[Value.ref b0] below meth c9 H' [] (cells + 1) (slots + 6) Q (F0 m 1441 ls' [])) : W p l e room_1 s m #[Value.ref b0] below meth c9 H [] cells slots Q (F0 m 792 ls []) := by
  obtain ⟨hx, hb, hF, hK, hDo, hDm, hdis, hT, hXF, hC, hlt, hX, hbl, hL⟩ := C0
  obtain ⟨hPo, hPm, hS, hR⟩ := S0
  have hn9 : n ≤ 24 := hR.n24
  have hn : n ≤ 24 := hn9
  have hts := hF.2.2.2.2
  have hKm := hK.sub (tys' := [(cI, .int), (cA, .array .int)]) [0, 1] rfl
  have hAo : ∀ q, wA ad 47 q → s.heap.size ≤ q := fun q ⟨k, hk, eq⟩ => by rw [eq]; exact hDo.2 k hk
  have hAm : ∀ q, wA am 8 q → s.heap.size ≤ q := fun q ⟨k, hk, eq⟩ => by rw [eq]; exact hDm.2 k hk
  refine lv_aload_n hx hb dL_law_792 rfl (lv_at hl 1 rfl) ?_
  refine lv_aload_n hx hb dL_law_793 rfl (lv_at hl 0 rfl) ?_
  refine lv_iload hx hb dL_law_794 (lv_at hl 4 rfl) ?_
  refine lv_iconst (v := nI 1) hx hb dL_law_796 (by decide) ?_
  refine r_addN (r := i + 1) hx hb dL_law_797 rfl ?_
  refine r_sld hx hb hX hbl hL hS (i := i + 1) (by omega) e1 dL_law_798 ?_
  refine lv_aload_n hx hb dL_law_799 rfl (lv_at hl 0 rfl) ?_
  refine lv_iload hx hb dL_law_800 (lv_at hl 4 rfl) ?_
  refine lv_iconst (v := nI 2) hx hb dL_law_802 (by decide) ?_
  refine r_addN (r := i + 2) hx hb dL_law_803 rfl ?_
  refine r_sld hx hb hX hbl hL hS (i := i + 2) (by omega) e2 dL_law_804 ?_
  refine lv_aload_n hx hb dL_law_805 rfl (lv_at hl 3 rfl) ?_
  refine k_L (vx_runSW (As := [.ref (ad 0), .int a, .int b, .ref (ad 46)]) (rest := []) hF (w_link_Ta l D cI cA ad n x a b cL o hlt hca) (vx_cwSW 4 hts gL_law_L_link rfl rfl rfl (by decide +kernel) ⟨(Nat.le_of_ble_eq_true rfl), (Nat.le_of_ble_eq_true rfl)⟩) (lw_pre hK hDo hT hXF hC hPo hS) rfl rfl hl.1 rfl (lv_room (Nat.le_of_ble_eq_true rfl)) dL_law_806 hroom) hAo (fun H1 hP1 hz hk9 => ?_)
  have hPm := lw_keep (fun j hj ⟨k, hk, eq⟩ => hdis k j hk hj eq.symm) hPm hk9
  have hS := lw_S hAo hS hz hk9
  refine lv_istore (lv' := [(5, .int (nI 1)), (0, .ref b0), (1, .ref (ad 0)), (2, .ref (am 0)), (3, .ref (ad 46)), (4, .int (nI i))]) hx hb dL_law_809 hl (by decide) rfl (fun ls hl => ?_)
  refine lv_aload_n hx hb dL_law_811 rfl (lv_at hl 3 rfl) ?_
  refine lv_aload_n hx hb dL_law_812 rfl (lv_at hl 1 rfl) ?_
  refine lv_iload hx hb dL_law_813 (lv_at hl 5 rfl) ?_
  refine lv_iconst (v := nI 1) hx hb dL_law_815 (by decide) ?_
  refine r_addN (r := i + 1) hx hb dL_law_816 rfl ?_
  refine r_sld hx hb hX hbl hL hS (i := i + 1) (by omega) e1 dL_law_817 ?_
  refine lv_aload_n hx hb dL_law_818 rfl (lv_at hl 1 rfl) ?_
  refine lv_iload hx hb dL_law_819 (lv_at hl 5 rfl) ?_
  refine lv_iconst (v := nI 2) hx hb dL_law_821 (by decide) ?_
  refine r_addN (r := i + 2) hx hb dL_law_822 rfl ?_
  refine r_sld hx hb hX hbl hL hS (i := i + 2) (by omega) e2 dL_law_823 ?_
  refine k_M (va_runV (As := [.int a, .int b]) (rest := []) hF (m_link_1 l D cI cA am th n y a b hn9 (by rw [hca]; rfl)) (cwV 2 hts gL_law_X4_link rfl rfl rfl (by decide +kernel) ⟨(Nat.le_of_ble_eq_true rfl), (Nat.le_of_ble_eq_true rfl)⟩) (k_pre hPm hKm hDm hT (k := 0) (by decide) mF_0 rfl) rfl rfl hl.1 rfl (lv_room (Nat.le_of_ble_eq_true rfl)) dL_law_824 ⟨hroom.1, hroom.2⟩) hAm (fun H2 hPm hz hk9 => ?_)
  have hPo := lw_keep (fun j hj ⟨k, hk, eq⟩ => hdis j k hj hk eq) hP1 hk9
  have hS := lw_S hAm hS hz hk9
  refine lv_istore (lv' := [(6, .int (nI 0)), (5, .int (nI 1)), (0, .ref b0), (1, .ref (ad 0)), (2, .ref (am 0)), (3, .ref (ad 46)), (4, .int (nI i))]) hx hb dL_law_827 hl (by decide) rfl (fun ls hl => ?_)
  refine lv_aload_n hx hb dL_law_829 rfl (lv_at hl 4 rfl) ?_
  refine k_Ri (va_runV (As := []) (rest := []) hF (c_X4_thrown l D cI cA am _ _ _) (cwV 0 hts gL_law_X4_thrown rfl rfl rfl (by decide +kernel) ⟨(Nat.le_of_ble_eq_true rfl), (Nat.le_of_ble_eq_true rfl)⟩) (k_pre hPm hKm hDm hT (k := 0) (by decide) mF_0 rfl) rfl rfl hl.1 rfl (lv_room (Nat.le_of_ble_eq_true rfl)) dL_law_830 ⟨hroom.1, hroom.2⟩) ?_
  refine lv_iload hx hb dL_law_833 (lv_at hl 1 rfl) ?_
  refine r_ceqN (tgt := 840) hx hb (by decide) (by decide) dL_law_835 (by decide) (fun _ => ?_) (fun h => absurd rfl h)
  refine lv_iload hx hb dL_law_840 (lv_at hl 1 rfl) ?_
  refine r_ifneN (a := 1) (tgt := 857) hx hb (by decide) dL_law_842 (by decide) (fun _ => ?_) (fun h => absurd h (by decide))
  refine lv_goto (tgt := 1441) hx hb dL_law_857 (by decide) ?_
  exact kk _ _ _ _ _ _ _ _ (by omega) ⟨hPo, hPm, hS, hR⟩ (lv_sub hl [2, 3, 4, 5, 6] rfl)
set_option maxHeartbeats 4000000 in
set_option maxRecDepth 100000 in
theorem z_link_Tb {p : Program} {l : Launch} {e : Env} {s : State} {m : MethodId} {below : List Frame} {meth : Method} {c9 : Code} {H : Heap} {cells slots : Nat} {Q : State → Prop} {ls : Array Slot} {D : va_G} {b0 L : Nat} {xs : Nat → Int32} {cI cA cL : ClassId} {ad am : Nat → Nat} {K n : Nat} {x y : Nat → Nat → Int32} {o : Nat → Int64} {th : Int32} {i : Nat} (C0 : lwC p l s m c9 b0 L xs D cI cA cL ad am) (S0 : lwS s D cI cA cL ad am K n x y o th H) (hK30 : K < 2 ^ 30) (hroom : cells + 1 ≤ room_1.cells ∧ slots + 6 ≤ room_1.slots) (hi : i + 4 < L) (hl : lv_has ls 7 [(0, .ref b0), (1, .ref (ad 0)), (2, .ref (am 0)), (3, .ref (ad 46)), (4, .int (nI i))]) (c : Nat) (b : Int32) (hc : c < n) (hcb : cardB n b = false) (e1 : xs (i + 1) = nI c) (e2 : xs (i + 2) = b) (kk : ∀ (K' n' : Nat) (x' y' : Nat → Nat → Int32) (o' : Nat → Int64) (th' : Int32) (H' : Heap) (ls' : Array Slot), K' ≤ K + 216 → lwS s D cI cA cL ad am K' n' x' y' o' th' H' → lv_has ls' 7 [(0, .ref b0), (1, .ref (ad 0)), (2, .ref (am 0)), (3, .ref (ad 46)), (4, .int (nI i))] → W p l e room_1 s m #[Value.ref b0] below meth c9 H' [] (cells + 1) (slots + 6) Q (F0 m 1441 ls' [])) : W p l e room_1 s m #[Value.ref b0] below meth c9 H [] cells slots Q (F0 m 792 ls []) := by
  obtain ⟨hx, hb, hF, hK, hDo, hDm, hdis, hT, hXF, hC, hlt, hX, hbl, hL⟩ := C0
  obtain ⟨hPo, hPm, hS, hR⟩ := S0
  have hn9 : n ≤ 24 := hR.n24
  have hn : n ≤ 24 := hn9
  have hts := hF.2.2.2.2
  have hKm := hK.sub (tys' := [(cI, .int), (cA, .array .int)]) [0, 1] rfl
  have hAo : ∀ q, wA ad 47 q → s.heap.size ≤ q := fun q ⟨k, hk, eq⟩ => by rw [eq]; exact hDo.2 k hk
  have hAm : ∀ q, wA am 8 q → s.heap.size ≤ q := fun q ⟨k, hk, eq⟩ => by rw [eq]; exact hDm.2 k hk
  refine lv_aload_n hx hb dL_law_792 rfl (lv_at hl 1 rfl) ?_
  refine lv_aload_n hx hb dL_law_793 rfl (lv_at hl 0 rfl) ?_
  refine lv_iload hx hb dL_law_794 (lv_at hl 4 rfl) ?_
  refine lv_iconst (v := nI 1) hx hb dL_law_796 (by decide) ?_
  refine r_addN (r := i + 1) hx hb dL_law_797 rfl ?_
  refine r_sld hx hb hX hbl hL hS (i := i + 1) (by omega) e1 dL_law_798 ?_
  refine lv_aload_n hx hb dL_law_799 rfl (lv_at hl 0 rfl) ?_
  refine lv_iload hx hb dL_law_800 (lv_at hl 4 rfl) ?_
  refine lv_iconst (v := nI 2) hx hb dL_law_802 (by decide) ?_
  refine r_addN (r := i + 2) hx hb dL_law_803 rfl ?_
  refine r_sld hx hb hX hbl hL hS (i := i + 2) (by omega) e2 dL_law_804 ?_
  refine lv_aload_n hx hb dL_law_805 rfl (lv_at hl 3 rfl) ?_
  refine k_L (vx_runSW (As := [.ref (ad 0), .int (nI c), .int b, .ref (ad 46)]) (rest := []) hF (w_link_Tb l D cI cA ad n x c b cL o hlt hc hn hcb) (vx_cwSW 4 hts gL_law_L_link rfl rfl rfl (by decide +kernel) ⟨(Nat.le_of_ble_eq_true rfl), (Nat.le_of_ble_eq_true rfl)⟩) (lw_pre hK hDo hT hXF hC hPo hS) rfl rfl hl.1 rfl (lv_room (Nat.le_of_ble_eq_true rfl)) dL_law_806 hroom) hAo (fun H1 hP1 hz hk9 => ?_)
  have hPm := lw_keep (fun j hj ⟨k, hk, eq⟩ => hdis k j hk hj eq.symm) hPm hk9
  have hS := lw_S hAo hS hz hk9
  refine lv_istore (lv' := [(5, .int (nI 1)), (0, .ref b0), (1, .ref (ad 0)), (2, .ref (am 0)), (3, .ref (ad 46)), (4, .int (nI i))]) hx hb dL_law_809 hl (by decide) rfl (fun ls hl => ?_)
  refine lv_aload_n hx hb dL_law_811 rfl (lv_at hl 3 rfl) ?_
  refine lv_aload_n hx hb dL_law_812 rfl (lv_at hl 1 rfl) ?_
  refine lv_iload hx hb dL_law_813 (lv_at hl 5 rfl) ?_
  refine lv_iconst (v := nI 1) hx hb dL_law_815 (by decide) ?_
  refine r_addN (r := i + 1) hx hb dL_law_816 rfl ?_
  refine r_sld hx hb hX hbl hL hS (i := i + 1) (by omega) e1 dL_law_817 ?_
  refine lv_aload_n hx hb dL_law_818 rfl (lv_at hl 1 rfl) ?_
  refine lv_iload hx hb dL_law_819 (lv_at hl 5 rfl) ?_
  refine lv_iconst (v := nI 2) hx hb dL_law_821 (by decide) ?_
  refine r_addN (r := i + 2) hx hb dL_law_822 rfl ?_
  refine r_sld hx hb hX hbl hL hS (i := i + 2) (by omega) e2 dL_law_823 ?_
  refine k_M (va_runV (As := [.int (nI c), .int b]) (rest := []) hF (m_link_1 l D cI cA am th n y (nI c) b hn9 (by rw [hcb, Bool.and_false])) (cwV 2 hts gL_law_X4_link rfl rfl rfl (by decide +kernel) ⟨(Nat.le_of_ble_eq_true rfl), (Nat.le_of_ble_eq_true rfl)⟩) (k_pre hPm hKm hDm hT (k := 0) (by decide) mF_0 rfl) rfl rfl hl.1 rfl (lv_room (Nat.le_of_ble_eq_true rfl)) dL_law_824 ⟨hroom.1, hroom.2⟩) hAm (fun H2 hPm hz hk9 => ?_)
  have hPo := lw_keep (fun j hj ⟨k, hk, eq⟩ => hdis j k hj hk eq) hP1 hk9
  have hS := lw_S hAm hS hz hk9
  refine lv_istore (lv' := [(6, .int (nI 0)), (5, .int (nI 1)), (0, .ref b0), (1, .ref (ad 0)), (2, .ref (am 0)), (3, .ref (ad 46)), (4, .int (nI i))]) hx hb dL_law_827 hl (by decide) rfl (fun ls hl => ?_)
  refine lv_aload_n hx hb dL_law_829 rfl (lv_at hl 4 rfl) ?_
  refine k_Ri (va_runV (As := []) (rest := []) hF (c_X4_thrown l D cI cA am _ _ _) (cwV 0 hts gL_law_X4_thrown rfl rfl rfl (by decide +kernel) ⟨(Nat.le_of_ble_eq_true rfl), (Nat.le_of_ble_eq_true rfl)⟩) (k_pre hPm hKm hDm hT (k := 0) (by decide) mF_0 rfl) rfl rfl hl.1 rfl (lv_room (Nat.le_of_ble_eq_true rfl)) dL_law_830 ⟨hroom.1, hroom.2⟩) ?_
  refine lv_iload hx hb dL_law_833 (lv_at hl 1 rfl) ?_
  refine r_ceqN (tgt := 840) hx hb (by decide) (by decide) dL_law_835 (by decide) (fun _ => ?_) (fun h => absurd rfl h)
  refine lv_iload hx hb dL_law_840 (lv_at hl 1 rfl) ?_
  refine r_ifneN (a := 1) (tgt := 857) hx hb (by decide) dL_law_842 (by decide) (fun _ => ?_) (fun h => absurd h (by decide))
  refine lv_goto (tgt := 1441) hx hb dL_law_857 (by decide) ?_
  exact kk _ _ _ _ _ _ _ _ (by omega) ⟨hPo, hPm, hS, hR⟩ (lv_sub hl [2, 3, 4, 5, 6] rfl)
set_option maxHeartbeats 4000000 in
set_option maxRecDepth 100000 in
theorem z_link_Tc {p : Program} {l : Launch} {e : Env} {s : State} {m : MethodId} {below : List Frame} {meth : Method} {c9 : Code} {H : Heap} {cells slots : Nat} {Q : State → Prop} {ls : Array Slot} {D : va_G} {b0 L : Nat} {xs : Nat → Int32} {cI cA cL : ClassId} {ad am : Nat → Nat} {K n : Nat} {x y : Nat → Nat → Int32} {o : Nat → Int64} {th : Int32} {i : Nat} (C0 : lwC p l s m c9 b0 L xs D cI cA cL ad am) (S0 : lwS s D cI cA cL ad am K n x y o th H) (hK30 : K < 2 ^ 30) (hroom : cells + 1 ≤ room_1.cells ∧ slots + 6 ≤ room_1.slots) (hi : i + 4 < L) (hl : lv_has ls 7 [(0, .ref b0), (1, .ref (ad 0)), (2, .ref (am 0)), (3, .ref (ad 46)), (4, .int (nI i))]) (c : Nat) (hc : c < n) (e1 : xs (i + 1) = nI c) (e2 : xs (i + 2) = nI c) (kk : ∀ (K' n' : Nat) (x' y' : Nat → Nat → Int32) (o' : Nat → Int64) (th' : Int32) (H' : Heap) (ls' : Array Slot), K' ≤ K + 216 → lwS s D cI cA cL ad am K' n' x' y' o' th' H' → lv_has ls' 7 [(0, .ref b0), (1, .ref (ad 0)), (2, .ref (am 0)), (3, .ref (ad 46)), (4, .int (nI i))] → W p l e room_1 s m #[Value.ref b0] below meth c9 H' [] (cells + 1) (slots + 6) Q (F0 m 1441 ls' [])) : W p l e room_1 s m #[Value.ref b0] below meth c9 H [] cells slots Q (F0 m 792 ls []) := by
  obtain ⟨hx, hb, hF, hK, hDo, hDm, hdis, hT, hXF, hC, hlt, hX, hbl, hL⟩ := C0
  obtain ⟨hPo, hPm, hS, hR⟩ := S0
  have hn9 : n ≤ 24 := hR.n24
  have hn : n ≤ 24 := hn9
  have hts := hF.2.2.2.2
  have hKm := hK.sub (tys' := [(cI, .int), (cA, .array .int)]) [0, 1] rfl
  have hAo : ∀ q, wA ad 47 q → s.heap.size ≤ q := fun q ⟨k, hk, eq⟩ => by rw [eq]; exact hDo.2 k hk
  have hAm : ∀ q, wA am 8 q → s.heap.size ≤ q := fun q ⟨k, hk, eq⟩ => by rw [eq]; exact hDm.2 k hk
  refine lv_aload_n hx hb dL_law_792 rfl (lv_at hl 1 rfl) ?_
  refine lv_aload_n hx hb dL_law_793 rfl (lv_at hl 0 rfl) ?_
  refine lv_iload hx hb dL_law_794 (lv_at hl 4 rfl) ?_
  refine lv_iconst (v := nI 1) hx hb dL_law_796 (by decide) ?_
  refine r_addN (r := i + 1) hx hb dL_law_797 rfl ?_
  refine r_sld hx hb hX hbl hL hS (i := i + 1) (by omega) e1 dL_law_798 ?_
  refine lv_aload_n hx hb dL_law_799 rfl (lv_at hl 0 rfl) ?_
  refine lv_iload hx hb dL_law_800 (lv_at hl 4 rfl) ?_
  refine lv_iconst (v := nI 2) hx hb dL_law_802 (by decide) ?_
  refine r_addN (r := i + 2) hx hb dL_law_803 rfl ?_
  refine r_sld hx hb hX hbl hL hS (i := i + 2) (by omega) e2 dL_law_804 ?_
  refine lv_aload_n hx hb dL_law_805 rfl (lv_at hl 3 rfl) ?_
  refine k_L (vx_runSW (As := [.ref (ad 0), .int (nI c), .int (nI c), .ref (ad 46)]) (rest := []) hF (w_link_Tc l D cI cA ad n x c cL o hlt hc hn) (vx_cwSW 4 hts gL_law_L_link rfl rfl rfl (by decide +kernel) ⟨(Nat.le_of_ble_eq_true rfl), (Nat.le_of_ble_eq_true rfl)⟩) (lw_pre hK hDo hT hXF hC hPo hS) rfl rfl hl.1 rfl (lv_room (Nat.le_of_ble_eq_true rfl)) dL_law_806 hroom) hAo (fun H1 hP1 hz hk9 => ?_)
  have hPm := lw_keep (fun j hj ⟨k, hk, eq⟩ => hdis k j hk hj eq.symm) hPm hk9
  have hS := lw_S hAo hS hz hk9
  refine lv_istore (lv' := [(5, .int (nI 2)), (0, .ref b0), (1, .ref (ad 0)), (2, .ref (am 0)), (3, .ref (ad 46)), (4, .int (nI i))]) hx hb dL_law_809 hl (by decide) rfl (fun ls hl => ?_)
  refine lv_aload_n hx hb dL_law_811 rfl (lv_at hl 3 rfl) ?_
  refine lv_aload_n hx hb dL_law_812 rfl (lv_at hl 1 rfl) ?_
  refine lv_iload hx hb dL_law_813 (lv_at hl 5 rfl) ?_
  refine lv_iconst (v := nI 1) hx hb dL_law_815 (by decide) ?_
  refine r_addN (r := i + 1) hx hb dL_law_816 rfl ?_
  refine r_sld hx hb hX hbl hL hS (i := i + 1) (by omega) e1 dL_law_817 ?_
  refine lv_aload_n hx hb dL_law_818 rfl (lv_at hl 1 rfl) ?_
  refine lv_iload hx hb dL_law_819 (lv_at hl 5 rfl) ?_
  refine lv_iconst (v := nI 2) hx hb dL_law_821 (by decide) ?_
  refine r_addN (r := i + 2) hx hb dL_law_822 rfl ?_
  refine r_sld hx hb hX hbl hL hS (i := i + 2) (by omega) e2 dL_law_823 ?_
  refine k_M (va_runV (As := [.int (nI c), .int (nI c)]) (rest := []) hF (m_link_2 l D cI cA am th n y c hc hn9) (cwV 2 hts gL_law_X4_link rfl rfl rfl (by decide +kernel) ⟨(Nat.le_of_ble_eq_true rfl), (Nat.le_of_ble_eq_true rfl)⟩) (k_pre hPm hKm hDm hT (k := 0) (by decide) mF_0 rfl) rfl rfl hl.1 rfl (lv_room (Nat.le_of_ble_eq_true rfl)) dL_law_824 ⟨hroom.1, hroom.2⟩) hAm (fun H2 hPm hz hk9 => ?_)
  have hPo := lw_keep (fun j hj ⟨k, hk, eq⟩ => hdis j k hj hk eq) hP1 hk9
  have hS := lw_S hAm hS hz hk9
  refine lv_istore (lv' := [(6, .int (nI 0)), (5, .int (nI 2)), (0, .ref b0), (1, .ref (ad 0)), (2, .ref (am 0)), (3, .ref (ad 46)), (4, .int (nI i))]) hx hb dL_law_827 hl (by decide) rfl (fun ls hl => ?_)
  refine lv_aload_n hx hb dL_law_829 rfl (lv_at hl 4 rfl) ?_
  refine k_Ri (va_runV (As := []) (rest := []) hF (c_X4_thrown l D cI cA am _ _ _) (cwV 0 hts gL_law_X4_thrown rfl rfl rfl (by decide +kernel) ⟨(Nat.le_of_ble_eq_true rfl), (Nat.le_of_ble_eq_true rfl)⟩) (k_pre hPm hKm hDm hT (k := 0) (by decide) mF_0 rfl) rfl rfl hl.1 rfl (lv_room (Nat.le_of_ble_eq_true rfl)) dL_law_830 ⟨hroom.1, hroom.2⟩) ?_
  refine lv_iload hx hb dL_law_833 (lv_at hl 1 rfl) ?_
  refine r_ceqN (tgt := 840) hx hb (by decide) (by decide) dL_law_835 (by decide) (fun _ => ?_) (fun h => absurd rfl h)
  refine lv_iload hx hb dL_law_840 (lv_at hl 1 rfl) ?_
  refine r_ifneN (a := 2) (tgt := 857) hx hb (by decide) dL_law_842 (by decide) (fun _ => ?_) (fun h => absurd h (by decide))
  refine lv_goto (tgt := 1441) hx hb dL_law_857 (by decide) ?_
  exact kk _ _ _ _ _ _ _ _ (by omega) ⟨hPo, hPm, hS, hR⟩ (lv_sub hl [2, 3, 4, 5, 6] rfl)
set_option maxHeartbeats 4000000 in
set_option maxRecDepth 100000 in
theorem z_link_Td {p : Program} {l : Launch} {e : Env} {s : State} {m : MethodId} {below : List Frame} {meth : Method} {c9 : Code} {H : Heap} {cells slots : Nat} {Q : State → Prop} {ls : Array Slot} {D : va_G} {b0 L : Nat} {xs : Nat → Int32} {cI cA cL : ClassId} {ad am : Nat → Nat} {K n : Nat} {x y : Nat → Nat → Int32} {o : Nat → Int64} {th : Int32} {i : Nat} (C0 : lwC p l s m c9 b0 L xs D cI cA cL ad am) (S0 : lwS s D cI cA cL ad am K n x y o th H) (hK30 : K < 2 ^ 30) (hroom : cells + 1 ≤ room_1.cells ∧ slots + 6 ≤ room_1.slots) (hi : i + 4 < L) (hl : lv_has ls 7 [(0, .ref b0), (1, .ref (ad 0)), (2, .ref (am 0)), (3, .ref (ad 46)), (4, .int (nI i))]) (c : Nat) (d : Nat) (hc : c < n) (hd : d < n) (hne : c ≠ d) (hlk : hasB (x 8 c) d = true) (e1 : xs (i + 1) = nI c) (e2 : xs (i + 2) = nI d) (kk : ∀ (K' n' : Nat) (x' y' : Nat → Nat → Int32) (o' : Nat → Int64) (th' : Int32) (H' : Heap) (ls' : Array Slot), K' ≤ K + 216 → lwS s D cI cA cL ad am K' n' x' y' o' th' H' → lv_has ls' 7 [(0, .ref b0), (1, .ref (ad 0)), (2, .ref (am 0)), (3, .ref (ad 46)), (4, .int (nI i))] → W p l e room_1 s m #[Value.ref b0] below meth c9 H' [] (cells + 1) (slots + 6) Q (F0 m 1441 ls' [])) : W p l e room_1 s m #[Value.ref b0] below meth c9 H [] cells slots Q (F0 m 792 ls []) := by
  obtain ⟨hx, hb, hF, hK, hDo, hDm, hdis, hT, hXF, hC, hlt, hX, hbl, hL⟩ := C0
  obtain ⟨hPo, hPm, hS, hR⟩ := S0
  have hn9 : n ≤ 24 := hR.n24
  have hn : n ≤ 24 := hn9
  have hts := hF.2.2.2.2
  have hKm := hK.sub (tys' := [(cI, .int), (cA, .array .int)]) [0, 1] rfl
  have hAo : ∀ q, wA ad 47 q → s.heap.size ≤ q := fun q ⟨k, hk, eq⟩ => by rw [eq]; exact hDo.2 k hk
  have hAm : ∀ q, wA am 8 q → s.heap.size ≤ q := fun q ⟨k, hk, eq⟩ => by rw [eq]; exact hDm.2 k hk
  refine lv_aload_n hx hb dL_law_792 rfl (lv_at hl 1 rfl) ?_
  refine lv_aload_n hx hb dL_law_793 rfl (lv_at hl 0 rfl) ?_
  refine lv_iload hx hb dL_law_794 (lv_at hl 4 rfl) ?_
  refine lv_iconst (v := nI 1) hx hb dL_law_796 (by decide) ?_
  refine r_addN (r := i + 1) hx hb dL_law_797 rfl ?_
  refine r_sld hx hb hX hbl hL hS (i := i + 1) (by omega) e1 dL_law_798 ?_
  refine lv_aload_n hx hb dL_law_799 rfl (lv_at hl 0 rfl) ?_
  refine lv_iload hx hb dL_law_800 (lv_at hl 4 rfl) ?_
  refine lv_iconst (v := nI 2) hx hb dL_law_802 (by decide) ?_
  refine r_addN (r := i + 2) hx hb dL_law_803 rfl ?_
  refine r_sld hx hb hX hbl hL hS (i := i + 2) (by omega) e2 dL_law_804 ?_
  refine lv_aload_n hx hb dL_law_805 rfl (lv_at hl 3 rfl) ?_
  refine k_L (vx_runSW (As := [.ref (ad 0), .int (nI c), .int (nI d), .ref (ad 46)]) (rest := []) hF (w_link_Td l D cI cA ad n x c d cL o hlt hc hd hne hn hlk) (vx_cwSW 4 hts gL_law_L_link rfl rfl rfl (by decide +kernel) ⟨(Nat.le_of_ble_eq_true rfl), (Nat.le_of_ble_eq_true rfl)⟩) (lw_pre hK hDo hT hXF hC hPo hS) rfl rfl hl.1 rfl (lv_room (Nat.le_of_ble_eq_true rfl)) dL_law_806 hroom) hAo (fun H1 hP1 hz hk9 => ?_)
  have hPm := lw_keep (fun j hj ⟨k, hk, eq⟩ => hdis k j hk hj eq.symm) hPm hk9
  have hS := lw_S hAo hS hz hk9
  refine lv_istore (lv' := [(5, .int (nI 3)), (0, .ref b0), (1, .ref (ad 0)), (2, .ref (am 0)), (3, .ref (ad 46)), (4, .int (nI i))]) hx hb dL_law_809 hl (by decide) rfl (fun ls hl => ?_)
  refine lv_aload_n hx hb dL_law_811 rfl (lv_at hl 3 rfl) ?_
  refine lv_aload_n hx hb dL_law_812 rfl (lv_at hl 1 rfl) ?_
  refine lv_iload hx hb dL_law_813 (lv_at hl 5 rfl) ?_
  refine lv_iconst (v := nI 1) hx hb dL_law_815 (by decide) ?_
  refine r_addN (r := i + 1) hx hb dL_law_816 rfl ?_
  refine r_sld hx hb hX hbl hL hS (i := i + 1) (by omega) e1 dL_law_817 ?_
  refine lv_aload_n hx hb dL_law_818 rfl (lv_at hl 1 rfl) ?_
  refine lv_iload hx hb dL_law_819 (lv_at hl 5 rfl) ?_
  refine lv_iconst (v := nI 2) hx hb dL_law_821 (by decide) ?_
  refine r_addN (r := i + 2) hx hb dL_law_822 rfl ?_
  refine r_sld hx hb hX hbl hL hS (i := i + 2) (by omega) e2 dL_law_823 ?_
  refine k_M (va_runV (As := [.int (nI c), .int (nI d)]) (rest := []) hF (m_link_3 l D cI cA am th n y c d hc hd hne hn9 (by rw [← hR.links (by omega)]; exact hlk)) (cwV 2 hts gL_law_X4_link rfl rfl rfl (by decide +kernel) ⟨(Nat.le_of_ble_eq_true rfl), (Nat.le_of_ble_eq_true rfl)⟩) (k_pre hPm hKm hDm hT (k := 0) (by decide) mF_0 rfl) rfl rfl hl.1 rfl (lv_room (Nat.le_of_ble_eq_true rfl)) dL_law_824 ⟨hroom.1, hroom.2⟩) hAm (fun H2 hPm hz hk9 => ?_)
  have hPo := lw_keep (fun j hj ⟨k, hk, eq⟩ => hdis j k hj hk eq) hP1 hk9
  have hS := lw_S hAm hS hz hk9
  refine lv_istore (lv' := [(6, .int (nI 0)), (5, .int (nI 3)), (0, .ref b0), (1, .ref (ad 0)), (2, .ref (am 0)), (3, .ref (ad 46)), (4, .int (nI i))]) hx hb dL_law_827 hl (by decide) rfl (fun ls hl => ?_)
  refine lv_aload_n hx hb dL_law_829 rfl (lv_at hl 4 rfl) ?_
  refine k_Ri (va_runV (As := []) (rest := []) hF (c_X4_thrown l D cI cA am _ _ _) (cwV 0 hts gL_law_X4_thrown rfl rfl rfl (by decide +kernel) ⟨(Nat.le_of_ble_eq_true rfl), (Nat.le_of_ble_eq_true rfl)⟩) (k_pre hPm hKm hDm hT (k := 0) (by decide) mF_0 rfl) rfl rfl hl.1 rfl (lv_room (Nat.le_of_ble_eq_true rfl)) dL_law_830 ⟨hroom.1, hroom.2⟩) ?_
  refine lv_iload hx hb dL_law_833 (lv_at hl 1 rfl) ?_
  refine r_ceqN (tgt := 840) hx hb (by decide) (by decide) dL_law_835 (by decide) (fun _ => ?_) (fun h => absurd rfl h)
  refine lv_iload hx hb dL_law_840 (lv_at hl 1 rfl) ?_
  refine r_ifneN (a := 3) (tgt := 857) hx hb (by decide) dL_law_842 (by decide) (fun _ => ?_) (fun h => absurd h (by decide))
  refine lv_goto (tgt := 1441) hx hb dL_law_857 (by decide) ?_
  exact kk _ _ _ _ _ _ _ _ (by omega) ⟨hPo, hPm, hS, hR⟩ (lv_sub hl [2, 3, 4, 5, 6] rfl)
set_option maxHeartbeats 4000000 in
set_option maxRecDepth 100000 in
theorem z_cut_0 {p : Program} {l : Launch} {e : Env} {s : State} {m : MethodId} {below : List Frame} {meth : Method} {c9 : Code} {H : Heap} {cells slots : Nat} {Q : State → Prop} {ls : Array Slot} {D : va_G} {b0 L : Nat} {xs : Nat → Int32} {cI cA cL : ClassId} {ad am : Nat → Nat} {K n : Nat} {x y : Nat → Nat → Int32} {o : Nat → Int64} {th : Int32} {i : Nat} (C0 : lwC p l s m c9 b0 L xs D cI cA cL ad am) (S0 : lwS s D cI cA cL ad am K n x y o th H) (hK30 : K < 2 ^ 30) (hroom : cells + 1 ≤ room_1.cells ∧ slots + 6 ≤ room_1.slots) (hi : i + 4 < L) (hl : lv_has ls 7 [(0, .ref b0), (1, .ref (ad 0)), (2, .ref (am 0)), (3, .ref (ad 46)), (4, .int (nI i))]) (c : Nat) (d : Nat) (hc : c < n) (hd : d < n) (hlk : hasB (x 8 c) d = true) (e1 : xs (i + 1) = nI c) (e2 : xs (i + 2) = nI d) (kk : ∀ (K' n' : Nat) (x' y' : Nat → Nat → Int32) (o' : Nat → Int64) (th' : Int32) (H' : Heap) (ls' : Array Slot), K' ≤ K + 216 → lwS s D cI cA cL ad am K' n' x' y' o' th' H' → lv_has ls' 7 [(0, .ref b0), (1, .ref (ad 0)), (2, .ref (am 0)), (3, .ref (ad 46)), (4, .int (nI i))] → W p l e room_1 s m #[Value.ref b0] below meth c9 H' [] (cells + 1) (slots + 6) Q (F0 m 1441 ls' [])) : W p l e room_1 s m #[Value.ref b0] below meth c9 H [] cells slots Q (F0 m 860 ls []) := by
  obtain ⟨hx, hb, hF, hK, hDo, hDm, hdis, hT, hXF, hC, hlt, hX, hbl, hL⟩ := C0
  obtain ⟨hPo, hPm, hS, hR⟩ := S0
  have hn9 : n ≤ 24 := hR.n24
  have hn : n ≤ 24 := hn9
  have hts := hF.2.2.2.2
  have hKm := hK.sub (tys' := [(cI, .int), (cA, .array .int)]) [0, 1] rfl
  have hAo : ∀ q, wA ad 47 q → s.heap.size ≤ q := fun q ⟨k, hk, eq⟩ => by rw [eq]; exact hDo.2 k hk
  have hAm : ∀ q, wA am 8 q → s.heap.size ≤ q := fun q ⟨k, hk, eq⟩ => by rw [eq]; exact hDm.2 k hk
  refine lv_aload_n hx hb dL_law_860 rfl (lv_at hl 1 rfl) ?_
  refine lv_aload_n hx hb dL_law_861 rfl (lv_at hl 0 rfl) ?_
  refine lv_iload hx hb dL_law_862 (lv_at hl 4 rfl) ?_
  refine lv_iconst (v := nI 1) hx hb dL_law_864 (by decide) ?_
  refine r_addN (r := i + 1) hx hb dL_law_865 rfl ?_
  refine r_sld hx hb hX hbl hL hS (i := i + 1) (by omega) e1 dL_law_866 ?_
  refine lv_aload_n hx hb dL_law_867 rfl (lv_at hl 0 rfl) ?_
  refine lv_iload hx hb dL_law_868 (lv_at hl 4 rfl) ?_
  refine lv_iconst (v := nI 2) hx hb dL_law_870 (by decide) ?_
  refine r_addN (r := i + 2) hx hb dL_law_871 rfl ?_
  refine r_sld hx hb hX hbl hL hS (i := i + 2) (by omega) e2 dL_law_872 ?_
  refine lv_aload_n hx hb dL_law_873 rfl (lv_at hl 3 rfl) ?_
  refine k_L (vx_runSW (As := [.ref (ad 0), .int (nI c), .int (nI d), .ref (ad 46)]) (rest := []) hF (w_cut_0 l D cI cA ad n x c d cL o hc hd hn hlk) (vx_cwSW 4 hts gL_law_L_cut rfl rfl rfl (by decide +kernel) ⟨(Nat.le_of_ble_eq_true rfl), (Nat.le_of_ble_eq_true rfl)⟩) (lw_pre hK hDo hT hXF hC hPo hS) rfl rfl hl.1 rfl (lv_room (Nat.le_of_ble_eq_true rfl)) dL_law_874 hroom) hAo (fun H1 hP1 hz hk9 => ?_)
  have hPm := lw_keep (fun j hj ⟨k, hk, eq⟩ => hdis k j hk hj eq.symm) hPm hk9
  have hS := lw_S hAo hS hz hk9
  refine lv_istore (lv' := [(5, .int (nI 0)), (0, .ref b0), (1, .ref (ad 0)), (2, .ref (am 0)), (3, .ref (ad 46)), (4, .int (nI i))]) hx hb dL_law_877 hl (by decide) rfl (fun ls hl => ?_)
  refine lv_aload_n hx hb dL_law_879 rfl (lv_at hl 3 rfl) ?_
  refine lv_aload_n hx hb dL_law_880 rfl (lv_at hl 1 rfl) ?_
  refine lv_iload hx hb dL_law_881 (lv_at hl 5 rfl) ?_
  refine lv_iconst (v := nI 1) hx hb dL_law_883 (by decide) ?_
  refine r_addN (r := i + 1) hx hb dL_law_884 rfl ?_
  refine r_sld hx hb hX hbl hL hS (i := i + 1) (by omega) e1 dL_law_885 ?_
  refine lv_aload_n hx hb dL_law_886 rfl (lv_at hl 1 rfl) ?_
  refine lv_iload hx hb dL_law_887 (lv_at hl 5 rfl) ?_
  refine lv_iconst (v := nI 2) hx hb dL_law_889 (by decide) ?_
  refine r_addN (r := i + 2) hx hb dL_law_890 rfl ?_
  refine r_sld hx hb hX hbl hL hS (i := i + 2) (by omega) e2 dL_law_891 ?_
  refine k_M (va_runV (As := [.int (nI c), .int (nI d)]) (rest := []) hF (m_cut_0 l D cI cA am th n y c d (disX x c d 9 c) hc hd hn9 (by rw [← hR.links (by omega)]; exact hlk) (Rel_cut hR hc hd).2) (cwV 2 hts gL_law_X4_cut rfl rfl rfl (by decide +kernel) ⟨(Nat.le_of_ble_eq_true rfl), (Nat.le_of_ble_eq_true rfl)⟩) (k_pre hPm hKm hDm hT (k := 0) (by decide) mF_0 rfl) rfl rfl hl.1 rfl (lv_room (Nat.le_of_ble_eq_true rfl)) dL_law_892 ⟨hroom.1, hroom.2⟩) hAm (fun H2 hPm hz hk9 => ?_)
  have hPo := lw_keep (fun j hj ⟨k, hk, eq⟩ => hdis j k hj hk eq) hP1 hk9
  have hS := lw_S hAm hS hz hk9
  refine r_topi (show _ = bI (hasB (disX x c d 9 c) d) from congrArg bI (rfl)) ?_
  refine lv_istore (lv' := [(6, .int (bI (hasB (disX x c d 9 c) d))), (5, .int (nI 0)), (0, .ref b0), (1, .ref (ad 0)), (2, .ref (am 0)), (3, .ref (ad 46)), (4, .int (nI i))]) hx hb dL_law_895 hl (by decide) rfl (fun ls hl => ?_)
  refine lv_aload_n hx hb dL_law_897 rfl (lv_at hl 4 rfl) ?_
  refine k_Ri (va_runV (As := []) (rest := []) hF (c_X4_thrown l D cI cA am _ _ _) (cwV 0 hts gL_law_X4_thrown rfl rfl rfl (by decide +kernel) ⟨(Nat.le_of_ble_eq_true rfl), (Nat.le_of_ble_eq_true rfl)⟩) (k_pre hPm hKm hDm hT (k := 0) (by decide) mF_0 rfl) rfl rfl hl.1 rfl (lv_room (Nat.le_of_ble_eq_true rfl)) dL_law_898 ⟨hroom.1, hroom.2⟩) ?_
  refine lv_iload hx hb dL_law_901 (lv_at hl 1 rfl) ?_
  refine r_ceqN (tgt := 908) hx hb (by decide) (by decide) dL_law_903 (by decide) (fun _ => ?_) (fun h => absurd rfl h)
  refine lv_iload hx hb dL_law_908 (lv_at hl 1 rfl) ?_
  refine r_ifneN (a := 0) (tgt := 932) hx hb (by decide) dL_law_910 (by decide) (fun h => absurd rfl h) (fun _ => ?_)
  refine lv_aload_n hx hb dL_law_913 rfl (lv_at hl 5 rfl) ?_
  refine lv_iconst (v := nI 0) hx hb dL_law_914 (by decide) ?_
  refine va_lald hx hb hK hPo 46 2 (wl_at (show 46 < 47 by decide)) rfl (vp_in_nI (by decide) (by decide)) dL_law_915 ?_
  rw [oW_0 (w := bL (hasB (disX x c d 9 c) d))]
  refine lv_iload hx hb dL_law_916 (lv_at hl 0 rfl) ?_
  have hfin : ∀ v9 : Int64, v9 = bL (hasB (disX x c d 9 c) d) → W p l e room_1 s m #[Value.ref b0] below meth c9 H2 [] (cells + 1) (slots + 6) Q (F0 m 926 ls [.long v9, .long (bL (hasB (disX x c d 9 c) d))]) := by
    intro v9 ev
    rw [ev]
    refine r_lcmpE hx hb dL_law_926 ?_
    refine r_ifeqN (a := 0) (tgt := 932) hx hb (by decide) dL_law_927 (by decide) (fun _ => ?_) (fun h => absurd rfl h)
    refine lv_goto (tgt := 1441) hx hb dL_law_932 (by decide) ?_
    exact kk _ _ _ _ _ _ _ _ (by omega) ⟨hPo, hPm, hS, (Rel_cut hR hc hd).1⟩ (lv_sub hl [2, 3, 4, 5, 6] rfl)
  refine r_ifeqB (tgt := 925) hx hb dL_law_918 (by decide) (fun hv9 => ?_) (fun hv9 => ?_)
  · refine lv_lconst (v := 0) hx hb dL_law_925 (by decide) ?_
    exact hfin 0 (by rw [hv9]; rfl)
  · refine lv_lconst (v := 1) hx hb dL_law_921 (by decide) ?_
    refine lv_goto (tgt := 926) hx hb dL_law_922 (by decide) ?_
    exact hfin 1 (by rw [hv9]; rfl)
set_option maxHeartbeats 4000000 in
set_option maxRecDepth 100000 in
theorem z_cut_Ta {p : Program} {l : Launch} {e : Env} {s : State} {m : MethodId} {below : List Frame} {meth : Method} {c9 : Code} {H : Heap} {cells slots : Nat} {Q : State → Prop} {ls : Array Slot} {D : va_G} {b0 L : Nat} {xs : Nat → Int32} {cI cA cL : ClassId} {ad am : Nat → Nat} {K n : Nat} {x y : Nat → Nat → Int32} {o : Nat → Int64} {th : Int32} {i : Nat} (C0 : lwC p l s m c9 b0 L xs D cI cA cL ad am) (S0 : lwS s D cI cA cL ad am K n x y o th H) (hK30 : K < 2 ^ 30) (hroom : cells + 1 ≤ room_1.cells ∧ slots + 6 ≤ room_1.slots) (hi : i + 4 < L) (hl : lv_has ls 7 [(0, .ref b0), (1, .ref (ad 0)), (2, .ref (am 0)), (3, .ref (ad 46)), (4, .int (nI i))]) (a : Int32) (b : Int32) (hca : cardB n a = false) (e1 : xs (i + 1) = a) (e2 : xs (i + 2) = b) (kk : ∀ (K' n' : Nat) (x' y' : Nat → Nat → Int32) (o' : Nat → Int64) (th' : Int32) (H' : Heap) (ls' : Array Slot), K' ≤ K + 216 → lwS s D cI cA cL ad am K' n' x' y' o' th' H' → lv_has ls' 7 [(0, .ref b0), (1, .ref (ad 0)), (2, .ref (am 0)), (3, .ref (ad 46)), (4, .int (nI i))] → W p l e room_1 s m #[Value.ref b0] below meth c9 H' [] (cells + 1) (slots + 6) Q (F0 m 1441 ls' [])) : W p l e room_1 s m #[Value.ref b0] below meth c9 H [] cells slots Q (F0 m 860 ls []) := by
  obtain ⟨hx, hb, hF, hK, hDo, hDm, hdis, hT, hXF, hC, hlt, hX, hbl, hL⟩ := C0
  obtain ⟨hPo, hPm, hS, hR⟩ := S0
  have hn9 : n ≤ 24 := hR.n24
  have hn : n ≤ 24 := hn9
  have hts := hF.2.2.2.2
  have hKm := hK.sub (tys' := [(cI, .int), (cA, .array .int)]) [0, 1] rfl
  have hAo : ∀ q, wA ad 47 q → s.heap.size ≤ q := fun q ⟨k, hk, eq⟩ => by rw [eq]; exact hDo.2 k hk
  have hAm : ∀ q, wA am 8 q → s.heap.size ≤ q := fun q ⟨k, hk, eq⟩ => by rw [eq]; exact hDm.2 k hk
  refine lv_aload_n hx hb dL_law_860 rfl (lv_at hl 1 rfl) ?_
  refine lv_aload_n hx hb dL_law_861 rfl (lv_at hl 0 rfl) ?_
  refine lv_iload hx hb dL_law_862 (lv_at hl 4 rfl) ?_
  refine lv_iconst (v := nI 1) hx hb dL_law_864 (by decide) ?_
  refine r_addN (r := i + 1) hx hb dL_law_865 rfl ?_
  refine r_sld hx hb hX hbl hL hS (i := i + 1) (by omega) e1 dL_law_866 ?_
  refine lv_aload_n hx hb dL_law_867 rfl (lv_at hl 0 rfl) ?_
  refine lv_iload hx hb dL_law_868 (lv_at hl 4 rfl) ?_
  refine lv_iconst (v := nI 2) hx hb dL_law_870 (by decide) ?_
  refine r_addN (r := i + 2) hx hb dL_law_871 rfl ?_
  refine r_sld hx hb hX hbl hL hS (i := i + 2) (by omega) e2 dL_law_872 ?_
  refine lv_aload_n hx hb dL_law_873 rfl (lv_at hl 3 rfl) ?_
  refine k_L (vx_runSW (As := [.ref (ad 0), .int a, .int b, .ref (ad 46)]) (rest := []) hF (w_cut_Ta l D cI cA ad n x a b cL o hlt hca) (vx_cwSW 4 hts gL_law_L_cut rfl rfl rfl (by decide +kernel) ⟨(Nat.le_of_ble_eq_true rfl), (Nat.le_of_ble_eq_true rfl)⟩) (lw_pre hK hDo hT hXF hC hPo hS) rfl rfl hl.1 rfl (lv_room (Nat.le_of_ble_eq_true rfl)) dL_law_874 hroom) hAo (fun H1 hP1 hz hk9 => ?_)
  have hPm := lw_keep (fun j hj ⟨k, hk, eq⟩ => hdis k j hk hj eq.symm) hPm hk9
  have hS := lw_S hAo hS hz hk9
  refine lv_istore (lv' := [(5, .int (nI 1)), (0, .ref b0), (1, .ref (ad 0)), (2, .ref (am 0)), (3, .ref (ad 46)), (4, .int (nI i))]) hx hb dL_law_877 hl (by decide) rfl (fun ls hl => ?_)
  refine lv_aload_n hx hb dL_law_879 rfl (lv_at hl 3 rfl) ?_
  refine lv_aload_n hx hb dL_law_880 rfl (lv_at hl 1 rfl) ?_
  refine lv_iload hx hb dL_law_881 (lv_at hl 5 rfl) ?_
  refine lv_iconst (v := nI 1) hx hb dL_law_883 (by decide) ?_
  refine r_addN (r := i + 1) hx hb dL_law_884 rfl ?_
  refine r_sld hx hb hX hbl hL hS (i := i + 1) (by omega) e1 dL_law_885 ?_
  refine lv_aload_n hx hb dL_law_886 rfl (lv_at hl 1 rfl) ?_
  refine lv_iload hx hb dL_law_887 (lv_at hl 5 rfl) ?_
  refine lv_iconst (v := nI 2) hx hb dL_law_889 (by decide) ?_
  refine r_addN (r := i + 2) hx hb dL_law_890 rfl ?_
  refine r_sld hx hb hX hbl hL hS (i := i + 2) (by omega) e2 dL_law_891 ?_
  refine k_M (va_runV (As := [.int a, .int b]) (rest := []) hF (m_cut_1 l D cI cA am th n y a b hn9 (by rw [hca]; rfl)) (cwV 2 hts gL_law_X4_cut rfl rfl rfl (by decide +kernel) ⟨(Nat.le_of_ble_eq_true rfl), (Nat.le_of_ble_eq_true rfl)⟩) (k_pre hPm hKm hDm hT (k := 0) (by decide) mF_0 rfl) rfl rfl hl.1 rfl (lv_room (Nat.le_of_ble_eq_true rfl)) dL_law_892 ⟨hroom.1, hroom.2⟩) hAm (fun H2 hPm hz hk9 => ?_)
  have hPo := lw_keep (fun j hj ⟨k, hk, eq⟩ => hdis j k hj hk eq) hP1 hk9
  have hS := lw_S hAm hS hz hk9
  refine lv_istore (lv' := [(6, .int (bI false)), (5, .int (nI 1)), (0, .ref b0), (1, .ref (ad 0)), (2, .ref (am 0)), (3, .ref (ad 46)), (4, .int (nI i))]) hx hb dL_law_895 hl (by decide) rfl (fun ls hl => ?_)
  refine lv_aload_n hx hb dL_law_897 rfl (lv_at hl 4 rfl) ?_
  refine k_Ri (va_runV (As := []) (rest := []) hF (c_X4_thrown l D cI cA am _ _ _) (cwV 0 hts gL_law_X4_thrown rfl rfl rfl (by decide +kernel) ⟨(Nat.le_of_ble_eq_true rfl), (Nat.le_of_ble_eq_true rfl)⟩) (k_pre hPm hKm hDm hT (k := 0) (by decide) mF_0 rfl) rfl rfl hl.1 rfl (lv_room (Nat.le_of_ble_eq_true rfl)) dL_law_898 ⟨hroom.1, hroom.2⟩) ?_
  refine lv_iload hx hb dL_law_901 (lv_at hl 1 rfl) ?_
  refine r_ceqN (tgt := 908) hx hb (by decide) (by decide) dL_law_903 (by decide) (fun _ => ?_) (fun h => absurd rfl h)
  refine lv_iload hx hb dL_law_908 (lv_at hl 1 rfl) ?_
  refine r_ifneN (a := 1) (tgt := 932) hx hb (by decide) dL_law_910 (by decide) (fun _ => ?_) (fun h => absurd h (by decide))
  refine lv_goto (tgt := 1441) hx hb dL_law_932 (by decide) ?_
  exact kk _ _ _ _ _ _ _ _ (by omega) ⟨hPo, hPm, hS, hR⟩ (lv_sub hl [2, 3, 4, 5, 6] rfl)
set_option maxHeartbeats 4000000 in
set_option maxRecDepth 100000 in
theorem z_cut_Tb {p : Program} {l : Launch} {e : Env} {s : State} {m : MethodId} {below : List Frame} {meth : Method} {c9 : Code} {H : Heap} {cells slots : Nat} {Q : State → Prop} {ls : Array Slot} {D : va_G} {b0 L : Nat} {xs : Nat → Int32} {cI cA cL : ClassId} {ad am : Nat → Nat} {K n : Nat} {x y : Nat → Nat → Int32} {o : Nat → Int64} {th : Int32} {i : Nat} (C0 : lwC p l s m c9 b0 L xs D cI cA cL ad am) (S0 : lwS s D cI cA cL ad am K n x y o th H) (hK30 : K < 2 ^ 30) (hroom : cells + 1 ≤ room_1.cells ∧ slots + 6 ≤ room_1.slots) (hi : i + 4 < L) (hl : lv_has ls 7 [(0, .ref b0), (1, .ref (ad 0)), (2, .ref (am 0)), (3, .ref (ad 46)), (4, .int (nI i))]) (c : Nat) (b : Int32) (hc : c < n) (hcb : cardB n b = false) (e1 : xs (i + 1) = nI c) (e2 : xs (i + 2) = b) (kk : ∀ (K' n' : Nat) (x' y' : Nat → Nat → Int32) (o' : Nat → Int64) (th' : Int32) (H' : Heap) (ls' : Array Slot), K' ≤ K + 216 → lwS s D cI cA cL ad am K' n' x' y' o' th' H' → lv_has ls' 7 [(0, .ref b0), (1, .ref (ad 0)), (2, .ref (am 0)), (3, .ref (ad 46)), (4, .int (nI i))] → W p l e room_1 s m #[Value.ref b0] below meth c9 H' [] (cells + 1) (slots + 6) Q (F0 m 1441 ls' [])) : W p l e room_1 s m #[Value.ref b0] below meth c9 H [] cells slots Q (F0 m 860 ls []) := by
  obtain ⟨hx, hb, hF, hK, hDo, hDm, hdis, hT, hXF, hC, hlt, hX, hbl, hL⟩ := C0
  obtain ⟨hPo, hPm, hS, hR⟩ := S0
  have hn9 : n ≤ 24 := hR.n24
  have hn : n ≤ 24 := hn9
  have hts := hF.2.2.2.2
  have hKm := hK.sub (tys' := [(cI, .int), (cA, .array .int)]) [0, 1] rfl
  have hAo : ∀ q, wA ad 47 q → s.heap.size ≤ q := fun q ⟨k, hk, eq⟩ => by rw [eq]; exact hDo.2 k hk
  have hAm : ∀ q, wA am 8 q → s.heap.size ≤ q := fun q ⟨k, hk, eq⟩ => by rw [eq]; exact hDm.2 k hk
  refine lv_aload_n hx hb dL_law_860 rfl (lv_at hl 1 rfl) ?_
  refine lv_aload_n hx hb dL_law_861 rfl (lv_at hl 0 rfl) ?_
  refine lv_iload hx hb dL_law_862 (lv_at hl 4 rfl) ?_
  refine lv_iconst (v := nI 1) hx hb dL_law_864 (by decide) ?_
  refine r_addN (r := i + 1) hx hb dL_law_865 rfl ?_
  refine r_sld hx hb hX hbl hL hS (i := i + 1) (by omega) e1 dL_law_866 ?_
  refine lv_aload_n hx hb dL_law_867 rfl (lv_at hl 0 rfl) ?_
  refine lv_iload hx hb dL_law_868 (lv_at hl 4 rfl) ?_
  refine lv_iconst (v := nI 2) hx hb dL_law_870 (by decide) ?_
  refine r_addN (r := i + 2) hx hb dL_law_871 rfl ?_
  refine r_sld hx hb hX hbl hL hS (i := i + 2) (by omega) e2 dL_law_872 ?_
  refine lv_aload_n hx hb dL_law_873 rfl (lv_at hl 3 rfl) ?_
  refine k_L (vx_runSW (As := [.ref (ad 0), .int (nI c), .int b, .ref (ad 46)]) (rest := []) hF (w_cut_Tb l D cI cA ad n x c b cL o hlt hc hn hcb) (vx_cwSW 4 hts gL_law_L_cut rfl rfl rfl (by decide +kernel) ⟨(Nat.le_of_ble_eq_true rfl), (Nat.le_of_ble_eq_true rfl)⟩) (lw_pre hK hDo hT hXF hC hPo hS) rfl rfl hl.1 rfl (lv_room (Nat.le_of_ble_eq_true rfl)) dL_law_874 hroom) hAo (fun H1 hP1 hz hk9 => ?_)
  have hPm := lw_keep (fun j hj ⟨k, hk, eq⟩ => hdis k j hk hj eq.symm) hPm hk9
  have hS := lw_S hAo hS hz hk9
  refine lv_istore (lv' := [(5, .int (nI 1)), (0, .ref b0), (1, .ref (ad 0)), (2, .ref (am 0)), (3, .ref (ad 46)), (4, .int (nI i))]) hx hb dL_law_877 hl (by decide) rfl (fun ls hl => ?_)
  refine lv_aload_n hx hb dL_law_879 rfl (lv_at hl 3 rfl) ?_
  refine lv_aload_n hx hb dL_law_880 rfl (lv_at hl 1 rfl) ?_
  refine lv_iload hx hb dL_law_881 (lv_at hl 5 rfl) ?_
  refine lv_iconst (v := nI 1) hx hb dL_law_883 (by decide) ?_
  refine r_addN (r := i + 1) hx hb dL_law_884 rfl ?_
  refine r_sld hx hb hX hbl hL hS (i := i + 1) (by omega) e1 dL_law_885 ?_
  refine lv_aload_n hx hb dL_law_886 rfl (lv_at hl 1 rfl) ?_
  refine lv_iload hx hb dL_law_887 (lv_at hl 5 rfl) ?_
  refine lv_iconst (v := nI 2) hx hb dL_law_889 (by decide) ?_
  refine r_addN (r := i + 2) hx hb dL_law_890 rfl ?_
  refine r_sld hx hb hX hbl hL hS (i := i + 2) (by omega) e2 dL_law_891 ?_
  refine k_M (va_runV (As := [.int (nI c), .int b]) (rest := []) hF (m_cut_1 l D cI cA am th n y (nI c) b hn9 (by rw [hcb, Bool.and_false])) (cwV 2 hts gL_law_X4_cut rfl rfl rfl (by decide +kernel) ⟨(Nat.le_of_ble_eq_true rfl), (Nat.le_of_ble_eq_true rfl)⟩) (k_pre hPm hKm hDm hT (k := 0) (by decide) mF_0 rfl) rfl rfl hl.1 rfl (lv_room (Nat.le_of_ble_eq_true rfl)) dL_law_892 ⟨hroom.1, hroom.2⟩) hAm (fun H2 hPm hz hk9 => ?_)
  have hPo := lw_keep (fun j hj ⟨k, hk, eq⟩ => hdis j k hj hk eq) hP1 hk9
  have hS := lw_S hAm hS hz hk9
  refine lv_istore (lv' := [(6, .int (bI false)), (5, .int (nI 1)), (0, .ref b0), (1, .ref (ad 0)), (2, .ref (am 0)), (3, .ref (ad 46)), (4, .int (nI i))]) hx hb dL_law_895 hl (by decide) rfl (fun ls hl => ?_)
  refine lv_aload_n hx hb dL_law_897 rfl (lv_at hl 4 rfl) ?_
  refine k_Ri (va_runV (As := []) (rest := []) hF (c_X4_thrown l D cI cA am _ _ _) (cwV 0 hts gL_law_X4_thrown rfl rfl rfl (by decide +kernel) ⟨(Nat.le_of_ble_eq_true rfl), (Nat.le_of_ble_eq_true rfl)⟩) (k_pre hPm hKm hDm hT (k := 0) (by decide) mF_0 rfl) rfl rfl hl.1 rfl (lv_room (Nat.le_of_ble_eq_true rfl)) dL_law_898 ⟨hroom.1, hroom.2⟩) ?_
  refine lv_iload hx hb dL_law_901 (lv_at hl 1 rfl) ?_
  refine r_ceqN (tgt := 908) hx hb (by decide) (by decide) dL_law_903 (by decide) (fun _ => ?_) (fun h => absurd rfl h)
  refine lv_iload hx hb dL_law_908 (lv_at hl 1 rfl) ?_
  refine r_ifneN (a := 1) (tgt := 932) hx hb (by decide) dL_law_910 (by decide) (fun _ => ?_) (fun h => absurd h (by decide))
  refine lv_goto (tgt := 1441) hx hb dL_law_932 (by decide) ?_
  exact kk _ _ _ _ _ _ _ _ (by omega) ⟨hPo, hPm, hS, hR⟩ (lv_sub hl [2, 3, 4, 5, 6] rfl)
set_option maxHeartbeats 4000000 in
set_option maxRecDepth 100000 in
theorem z_cut_Tc {p : Program} {l : Launch} {e : Env} {s : State} {m : MethodId} {below : List Frame} {meth : Method} {c9 : Code} {H : Heap} {cells slots : Nat} {Q : State → Prop} {ls : Array Slot} {D : va_G} {b0 L : Nat} {xs : Nat → Int32} {cI cA cL : ClassId} {ad am : Nat → Nat} {K n : Nat} {x y : Nat → Nat → Int32} {o : Nat → Int64} {th : Int32} {i : Nat} (C0 : lwC p l s m c9 b0 L xs D cI cA cL ad am) (S0 : lwS s D cI cA cL ad am K n x y o th H) (hK30 : K < 2 ^ 30) (hroom : cells + 1 ≤ room_1.cells ∧ slots + 6 ≤ room_1.slots) (hi : i + 4 < L) (hl : lv_has ls 7 [(0, .ref b0), (1, .ref (ad 0)), (2, .ref (am 0)), (3, .ref (ad 46)), (4, .int (nI i))]) (c : Nat) (d : Nat) (hc : c < n) (hd : d < n) (hlk : hasB (x 8 c) d = false) (e1 : xs (i + 1) = nI c) (e2 : xs (i + 2) = nI d) (kk : ∀ (K' n' : Nat) (x' y' : Nat → Nat → Int32) (o' : Nat → Int64) (th' : Int32) (H' : Heap) (ls' : Array Slot), K' ≤ K + 216 → lwS s D cI cA cL ad am K' n' x' y' o' th' H' → lv_has ls' 7 [(0, .ref b0), (1, .ref (ad 0)), (2, .ref (am 0)), (3, .ref (ad 46)), (4, .int (nI i))] → W p l e room_1 s m #[Value.ref b0] below meth c9 H' [] (cells + 1) (slots + 6) Q (F0 m 1441 ls' [])) : W p l e room_1 s m #[Value.ref b0] below meth c9 H [] cells slots Q (F0 m 860 ls []) := by
  obtain ⟨hx, hb, hF, hK, hDo, hDm, hdis, hT, hXF, hC, hlt, hX, hbl, hL⟩ := C0
  obtain ⟨hPo, hPm, hS, hR⟩ := S0
  have hn9 : n ≤ 24 := hR.n24
  have hn : n ≤ 24 := hn9
  have hts := hF.2.2.2.2
  have hKm := hK.sub (tys' := [(cI, .int), (cA, .array .int)]) [0, 1] rfl
  have hAo : ∀ q, wA ad 47 q → s.heap.size ≤ q := fun q ⟨k, hk, eq⟩ => by rw [eq]; exact hDo.2 k hk
  have hAm : ∀ q, wA am 8 q → s.heap.size ≤ q := fun q ⟨k, hk, eq⟩ => by rw [eq]; exact hDm.2 k hk
  refine lv_aload_n hx hb dL_law_860 rfl (lv_at hl 1 rfl) ?_
  refine lv_aload_n hx hb dL_law_861 rfl (lv_at hl 0 rfl) ?_
  refine lv_iload hx hb dL_law_862 (lv_at hl 4 rfl) ?_
  refine lv_iconst (v := nI 1) hx hb dL_law_864 (by decide) ?_
  refine r_addN (r := i + 1) hx hb dL_law_865 rfl ?_
  refine r_sld hx hb hX hbl hL hS (i := i + 1) (by omega) e1 dL_law_866 ?_
  refine lv_aload_n hx hb dL_law_867 rfl (lv_at hl 0 rfl) ?_
  refine lv_iload hx hb dL_law_868 (lv_at hl 4 rfl) ?_
  refine lv_iconst (v := nI 2) hx hb dL_law_870 (by decide) ?_
  refine r_addN (r := i + 2) hx hb dL_law_871 rfl ?_
  refine r_sld hx hb hX hbl hL hS (i := i + 2) (by omega) e2 dL_law_872 ?_
  refine lv_aload_n hx hb dL_law_873 rfl (lv_at hl 3 rfl) ?_
  refine k_L (vx_runSW (As := [.ref (ad 0), .int (nI c), .int (nI d), .ref (ad 46)]) (rest := []) hF (w_cut_Tc l D cI cA ad n x c d cL o hlt hc hd hn hlk) (vx_cwSW 4 hts gL_law_L_cut rfl rfl rfl (by decide +kernel) ⟨(Nat.le_of_ble_eq_true rfl), (Nat.le_of_ble_eq_true rfl)⟩) (lw_pre hK hDo hT hXF hC hPo hS) rfl rfl hl.1 rfl (lv_room (Nat.le_of_ble_eq_true rfl)) dL_law_874 hroom) hAo (fun H1 hP1 hz hk9 => ?_)
  have hPm := lw_keep (fun j hj ⟨k, hk, eq⟩ => hdis k j hk hj eq.symm) hPm hk9
  have hS := lw_S hAo hS hz hk9
  refine lv_istore (lv' := [(5, .int (nI 2)), (0, .ref b0), (1, .ref (ad 0)), (2, .ref (am 0)), (3, .ref (ad 46)), (4, .int (nI i))]) hx hb dL_law_877 hl (by decide) rfl (fun ls hl => ?_)
  refine lv_aload_n hx hb dL_law_879 rfl (lv_at hl 3 rfl) ?_
  refine lv_aload_n hx hb dL_law_880 rfl (lv_at hl 1 rfl) ?_
  refine lv_iload hx hb dL_law_881 (lv_at hl 5 rfl) ?_
  refine lv_iconst (v := nI 1) hx hb dL_law_883 (by decide) ?_
  refine r_addN (r := i + 1) hx hb dL_law_884 rfl ?_
  refine r_sld hx hb hX hbl hL hS (i := i + 1) (by omega) e1 dL_law_885 ?_
  refine lv_aload_n hx hb dL_law_886 rfl (lv_at hl 1 rfl) ?_
  refine lv_iload hx hb dL_law_887 (lv_at hl 5 rfl) ?_
  refine lv_iconst (v := nI 2) hx hb dL_law_889 (by decide) ?_
  refine r_addN (r := i + 2) hx hb dL_law_890 rfl ?_
  refine r_sld hx hb hX hbl hL hS (i := i + 2) (by omega) e2 dL_law_891 ?_
  refine k_M (va_runV (As := [.int (nI c), .int (nI d)]) (rest := []) hF (m_cut_2 l D cI cA am th n y c d hc hd hn9 (by rw [← hR.links (by omega)]; exact hlk)) (cwV 2 hts gL_law_X4_cut rfl rfl rfl (by decide +kernel) ⟨(Nat.le_of_ble_eq_true rfl), (Nat.le_of_ble_eq_true rfl)⟩) (k_pre hPm hKm hDm hT (k := 0) (by decide) mF_0 rfl) rfl rfl hl.1 rfl (lv_room (Nat.le_of_ble_eq_true rfl)) dL_law_892 ⟨hroom.1, hroom.2⟩) hAm (fun H2 hPm hz hk9 => ?_)
  have hPo := lw_keep (fun j hj ⟨k, hk, eq⟩ => hdis j k hj hk eq) hP1 hk9
  have hS := lw_S hAm hS hz hk9
  refine lv_istore (lv' := [(6, .int (bI false)), (5, .int (nI 2)), (0, .ref b0), (1, .ref (ad 0)), (2, .ref (am 0)), (3, .ref (ad 46)), (4, .int (nI i))]) hx hb dL_law_895 hl (by decide) rfl (fun ls hl => ?_)
  refine lv_aload_n hx hb dL_law_897 rfl (lv_at hl 4 rfl) ?_
  refine k_Ri (va_runV (As := []) (rest := []) hF (c_X4_thrown l D cI cA am _ _ _) (cwV 0 hts gL_law_X4_thrown rfl rfl rfl (by decide +kernel) ⟨(Nat.le_of_ble_eq_true rfl), (Nat.le_of_ble_eq_true rfl)⟩) (k_pre hPm hKm hDm hT (k := 0) (by decide) mF_0 rfl) rfl rfl hl.1 rfl (lv_room (Nat.le_of_ble_eq_true rfl)) dL_law_898 ⟨hroom.1, hroom.2⟩) ?_
  refine lv_iload hx hb dL_law_901 (lv_at hl 1 rfl) ?_
  refine r_ceqN (tgt := 908) hx hb (by decide) (by decide) dL_law_903 (by decide) (fun _ => ?_) (fun h => absurd rfl h)
  refine lv_iload hx hb dL_law_908 (lv_at hl 1 rfl) ?_
  refine r_ifneN (a := 2) (tgt := 932) hx hb (by decide) dL_law_910 (by decide) (fun _ => ?_) (fun h => absurd h (by decide))
  refine lv_goto (tgt := 1441) hx hb dL_law_932 (by decide) ?_
  exact kk _ _ _ _ _ _ _ _ (by omega) ⟨hPo, hPm, hS, hR⟩ (lv_sub hl [2, 3, 4, 5, 6] rfl)
set_option maxHeartbeats 4000000 in
set_option maxRecDepth 100000 in
theorem z_group_0 {p : Program} {l : Launch} {e : Env} {s : State} {m : MethodId} {below : List Frame} {meth : Method} {c9 : Code} {H : Heap} {cells slots : Nat} {Q : State → Prop} {ls : Array Slot} {D : va_G} {b0 L : Nat} {xs : Nat → Int32} {cI cA cL : ClassId} {ad am : Nat → Nat} {K n : Nat} {x y : Nat → Nat → Int32} {o : Nat → Int64} {th : Int32} {i : Nat} (C0 : lwC p l s m c9 b0 L xs D cI cA cL ad am) (S0 : lwS s D cI cA cL ad am K n x y o th H) (hK30 : K < 2 ^ 30) (hroom : cells + 1 ≤ room_1.cells ∧ slots + 6 ≤ room_1.slots) (hi : i + 4 < L) (hl : lv_has ls 7 [(0, .ref b0), (1, .ref (ad 0)), (2, .ref (am 0)), (3, .ref (ad 46)), (4, .int (nI i))]) (c : Nat) (hc : c < n) (e1 : xs (i + 1) = nI c) (kk : ∀ (K' n' : Nat) (x' y' : Nat → Nat → Int32) (o' : Nat → Int64) (th' : Int32) (H' : Heap) (ls' : Array Slot), K' ≤ K + 216 → lwS s D cI cA cL ad am K' n' x' y' o' th' H' → lv_has ls' 7 [(0, .ref b0), (1, .ref (ad 0)), (2, .ref (am 0)), (3, .ref (ad 46)), (4, .int (nI i))] → W p l e room_1 s m #[Value.ref b0] below meth c9 H' [] (cells + 1) (slots + 6) Q (F0 m 1441 ls' [])) : W p l e room_1 s m #[Value.ref b0] below meth c9 H [] cells slots Q (F0 m 935 ls []) := by
  obtain ⟨hx, hb, hF, hK, hDo, hDm, hdis, hT, hXF, hC, hlt, hX, hbl, hL⟩ := C0
  obtain ⟨hPo, hPm, hS, hR⟩ := S0
  have hn9 : n ≤ 24 := hR.n24
  have hn : n ≤ 24 := hn9
  have hts := hF.2.2.2.2
  have hKm := hK.sub (tys' := [(cI, .int), (cA, .array .int)]) [0, 1] rfl
  have hAo : ∀ q, wA ad 47 q → s.heap.size ≤ q := fun q ⟨k, hk, eq⟩ => by rw [eq]; exact hDo.2 k hk
  have hAm : ∀ q, wA am 8 q → s.heap.size ≤ q := fun q ⟨k, hk, eq⟩ => by rw [eq]; exact hDm.2 k hk
  refine lv_aload_n hx hb dL_law_935 rfl (lv_at hl 1 rfl) ?_
  refine lv_aload_n hx hb dL_law_936 rfl (lv_at hl 0 rfl) ?_
  refine lv_iload hx hb dL_law_937 (lv_at hl 4 rfl) ?_
  refine lv_iconst (v := nI 1) hx hb dL_law_939 (by decide) ?_
  refine r_addN (r := i + 1) hx hb dL_law_940 rfl ?_
  refine r_sld hx hb hX hbl hL hS (i := i + 1) (by omega) e1 dL_law_941 ?_
  refine lv_aload_n hx hb dL_law_942 rfl (lv_at hl 3 rfl) ?_
  refine k_L (vx_runSW (As := [.ref (ad 0), .int (nI c), .ref (ad 46)]) (rest := []) hF (w_group_0 l D cI cA ad n x c cL o hc hn) (vx_cwSW 3 hts gL_law_L_group rfl rfl rfl (by decide +kernel) ⟨(Nat.le_of_ble_eq_true rfl), (Nat.le_of_ble_eq_true rfl)⟩) (lw_pre hK hDo hT hXF hC hPo hS) rfl rfl hl.1 rfl (lv_room (Nat.le_of_ble_eq_true rfl)) dL_law_943 hroom) hAo (fun H1 hP1 hz hk9 => ?_)
  have hPm := lw_keep (fun j hj ⟨k, hk, eq⟩ => hdis k j hk hj eq.symm) hPm hk9
  have hS := lw_S hAo hS hz hk9
  refine lv_istore (lv' := [(5, .int (nI 0)), (0, .ref b0), (1, .ref (ad 0)), (2, .ref (am 0)), (3, .ref (ad 46)), (4, .int (nI i))]) hx hb dL_law_946 hl (by decide) rfl (fun ls hl => ?_)
  refine lv_aload_n hx hb dL_law_948 rfl (lv_at hl 3 rfl) ?_
  refine lv_aload_n hx hb dL_law_949 rfl (lv_at hl 1 rfl) ?_
  refine lv_iload hx hb dL_law_950 (lv_at hl 5 rfl) ?_
  refine lv_iconst (v := nI 1) hx hb dL_law_952 (by decide) ?_
  refine r_addN (r := i + 1) hx hb dL_law_953 rfl ?_
  refine r_sld hx hb hX hbl hL hS (i := i + 1) (by omega) e1 dL_law_954 ?_
  refine k_M (va_runV (As := [.int (nI c)]) (rest := []) hF (m_group_0 l D cI cA am th n y c (x 9) hc hn9 hR.grp) (cwV 1 hts gL_law_X4_group rfl rfl rfl (by decide +kernel) ⟨(Nat.le_of_ble_eq_true rfl), (Nat.le_of_ble_eq_true rfl)⟩) (k_pre hPm hKm hDm hT (k := 0) (by decide) mF_0 rfl) rfl rfl hl.1 rfl (lv_room (Nat.le_of_ble_eq_true rfl)) dL_law_955 ⟨hroom.1, hroom.2⟩) hAm (fun H2 hPm hz hk9 => ?_)
  have hPo := lw_keep (fun j hj ⟨k, hk, eq⟩ => hdis j k hj hk eq) hP1 hk9
  have hS := lw_S hAm hS hz hk9
  refine r_topi (show _ = x 9 c from rfl) ?_
  refine lv_istore (lv' := [(6, .int (x 9 c)), (5, .int (nI 0)), (0, .ref b0), (1, .ref (ad 0)), (2, .ref (am 0)), (3, .ref (ad 46)), (4, .int (nI i))]) hx hb dL_law_958 hl (by decide) rfl (fun ls hl => ?_)
  refine lv_aload_n hx hb dL_law_960 rfl (lv_at hl 4 rfl) ?_
  refine k_Ri (va_runV (As := []) (rest := []) hF (c_X4_thrown l D cI cA am _ _ _) (cwV 0 hts gL_law_X4_thrown rfl rfl rfl (by decide +kernel) ⟨(Nat.le_of_ble_eq_true rfl), (Nat.le_of_ble_eq_true rfl)⟩) (k_pre hPm hKm hDm hT (k := 0) (by decide) mF_0 rfl) rfl rfl hl.1 rfl (lv_room (Nat.le_of_ble_eq_true rfl)) dL_law_961 ⟨hroom.1, hroom.2⟩) ?_
  refine lv_iload hx hb dL_law_964 (lv_at hl 1 rfl) ?_
  refine r_ceqN (tgt := 971) hx hb (by decide) (by decide) dL_law_966 (by decide) (fun _ => ?_) (fun h => absurd rfl h)
  refine lv_iload hx hb dL_law_971 (lv_at hl 1 rfl) ?_
  refine r_ifneN (a := 0) (tgt := 988) hx hb (by decide) dL_law_973 (by decide) (fun h => absurd rfl h) (fun _ => ?_)
  refine lv_aload_n hx hb dL_law_976 rfl (lv_at hl 5 rfl) ?_
  refine lv_iconst (v := nI 0) hx hb dL_law_977 (by decide) ?_
  refine va_lald hx hb hK hPo 46 2 (wl_at (show 46 < 47 by decide)) rfl (vp_in_nI (by decide) (by decide)) dL_law_978 ?_
  rw [oW_0 (w := (x 9 c).toInt64)]
  refine lv_iload hx hb dL_law_979 (lv_at hl 0 rfl) ?_
  refine lv_i2l hx hb dL_law_981 rfl ?_
  refine r_lcmpE hx hb dL_law_982 ?_
  refine r_ifeqN (a := 0) (tgt := 988) hx hb (by decide) dL_law_983 (by decide) (fun _ => ?_) (fun h => absurd rfl h)
  refine lv_goto (tgt := 1441) hx hb dL_law_988 (by decide) ?_
  exact kk _ _ _ _ _ _ _ _ (by omega) ⟨hPo, hPm, hS, hR⟩ (lv_sub hl [2, 3, 4, 5, 6] rfl)
set_option maxHeartbeats 4000000 in
set_option maxRecDepth 100000 in
theorem z_group_Ta {p : Program} {l : Launch} {e : Env} {s : State} {m : MethodId} {below : List Frame} {meth : Method} {c9 : Code} {H : Heap} {cells slots : Nat} {Q : State → Prop} {ls : Array Slot} {D : va_G} {b0 L : Nat} {xs : Nat → Int32} {cI cA cL : ClassId} {ad am : Nat → Nat} {K n : Nat} {x y : Nat → Nat → Int32} {o : Nat → Int64} {th : Int32} {i : Nat} (C0 : lwC p l s m c9 b0 L xs D cI cA cL ad am) (S0 : lwS s D cI cA cL ad am K n x y o th H) (hK30 : K < 2 ^ 30) (hroom : cells + 1 ≤ room_1.cells ∧ slots + 6 ≤ room_1.slots) (hi : i + 4 < L) (hl : lv_has ls 7 [(0, .ref b0), (1, .ref (ad 0)), (2, .ref (am 0)), (3, .ref (ad 46)), (4, .int (nI i))]) (a : Int32) (hca : cardB n a = false) (e1 : xs (i + 1) = a) (kk : ∀ (K' n' : Nat) (x' y' : Nat → Nat → Int32) (o' : Nat → Int64) (th' : Int32) (H' : Heap) (ls' : Array Slot), K' ≤ K + 216 → lwS s D cI cA cL ad am K' n' x' y' o' th' H' → lv_has ls' 7 [(0, .ref b0), (1, .ref (ad 0)), (2, .ref (am 0)), (3, .ref (ad 46)), (4, .int (nI i))] → W p l e room_1 s m #[Value.ref b0] below meth c9 H' [] (cells + 1) (slots + 6) Q (F0 m 1441 ls' [])) : W p l e room_1 s m #[Value.ref b0] below meth c9 H [] cells slots Q (F0 m 935 ls []) := by
  obtain ⟨hx, hb, hF, hK, hDo, hDm, hdis, hT, hXF, hC, hlt, hX, hbl, hL⟩ := C0
  obtain ⟨hPo, hPm, hS, hR⟩ := S0
  have hn9 : n ≤ 24 := hR.n24
  have hn : n ≤ 24 := hn9
  have hts := hF.2.2.2.2
  have hKm := hK.sub (tys' := [(cI, .int), (cA, .array .int)]) [0, 1] rfl
  have hAo : ∀ q, wA ad 47 q → s.heap.size ≤ q := fun q ⟨k, hk, eq⟩ => by rw [eq]; exact hDo.2 k hk
  have hAm : ∀ q, wA am 8 q → s.heap.size ≤ q := fun q ⟨k, hk, eq⟩ => by rw [eq]; exact hDm.2 k hk
  refine lv_aload_n hx hb dL_law_935 rfl (lv_at hl 1 rfl) ?_
  refine lv_aload_n hx hb dL_law_936 rfl (lv_at hl 0 rfl) ?_
  refine lv_iload hx hb dL_law_937 (lv_at hl 4 rfl) ?_
  refine lv_iconst (v := nI 1) hx hb dL_law_939 (by decide) ?_
  refine r_addN (r := i + 1) hx hb dL_law_940 rfl ?_
  refine r_sld hx hb hX hbl hL hS (i := i + 1) (by omega) e1 dL_law_941 ?_
  refine lv_aload_n hx hb dL_law_942 rfl (lv_at hl 3 rfl) ?_
  refine k_L (vx_runSW (As := [.ref (ad 0), .int a, .ref (ad 46)]) (rest := []) hF (w_group_Ta l D cI cA ad n x a cL o hlt hca) (vx_cwSW 3 hts gL_law_L_group rfl rfl rfl (by decide +kernel) ⟨(Nat.le_of_ble_eq_true rfl), (Nat.le_of_ble_eq_true rfl)⟩) (lw_pre hK hDo hT hXF hC hPo hS) rfl rfl hl.1 rfl (lv_room (Nat.le_of_ble_eq_true rfl)) dL_law_943 hroom) hAo (fun H1 hP1 hz hk9 => ?_)
  have hPm := lw_keep (fun j hj ⟨k, hk, eq⟩ => hdis k j hk hj eq.symm) hPm hk9
  have hS := lw_S hAo hS hz hk9
  refine lv_istore (lv' := [(5, .int (nI 1)), (0, .ref b0), (1, .ref (ad 0)), (2, .ref (am 0)), (3, .ref (ad 46)), (4, .int (nI i))]) hx hb dL_law_946 hl (by decide) rfl (fun ls hl => ?_)
  refine lv_aload_n hx hb dL_law_948 rfl (lv_at hl 3 rfl) ?_
  refine lv_aload_n hx hb dL_law_949 rfl (lv_at hl 1 rfl) ?_
  refine lv_iload hx hb dL_law_950 (lv_at hl 5 rfl) ?_
  refine lv_iconst (v := nI 1) hx hb dL_law_952 (by decide) ?_
  refine r_addN (r := i + 1) hx hb dL_law_953 rfl ?_
  refine r_sld hx hb hX hbl hL hS (i := i + 1) (by omega) e1 dL_law_954 ?_
  refine k_M (va_runV (As := [.int a]) (rest := []) hF (m_group_1 l D cI cA am th n y a hca hn9) (cwV 1 hts gL_law_X4_group rfl rfl rfl (by decide +kernel) ⟨(Nat.le_of_ble_eq_true rfl), (Nat.le_of_ble_eq_true rfl)⟩) (k_pre hPm hKm hDm hT (k := 0) (by decide) mF_0 rfl) rfl rfl hl.1 rfl (lv_room (Nat.le_of_ble_eq_true rfl)) dL_law_955 ⟨hroom.1, hroom.2⟩) hAm (fun H2 hPm hz hk9 => ?_)
  have hPo := lw_keep (fun j hj ⟨k, hk, eq⟩ => hdis j k hj hk eq) hP1 hk9
  have hS := lw_S hAm hS hz hk9
  refine lv_istore (lv' := [(6, .int (nI 0)), (5, .int (nI 1)), (0, .ref b0), (1, .ref (ad 0)), (2, .ref (am 0)), (3, .ref (ad 46)), (4, .int (nI i))]) hx hb dL_law_958 hl (by decide) rfl (fun ls hl => ?_)
  refine lv_aload_n hx hb dL_law_960 rfl (lv_at hl 4 rfl) ?_
  refine k_Ri (va_runV (As := []) (rest := []) hF (c_X4_thrown l D cI cA am _ _ _) (cwV 0 hts gL_law_X4_thrown rfl rfl rfl (by decide +kernel) ⟨(Nat.le_of_ble_eq_true rfl), (Nat.le_of_ble_eq_true rfl)⟩) (k_pre hPm hKm hDm hT (k := 0) (by decide) mF_0 rfl) rfl rfl hl.1 rfl (lv_room (Nat.le_of_ble_eq_true rfl)) dL_law_961 ⟨hroom.1, hroom.2⟩) ?_
  refine lv_iload hx hb dL_law_964 (lv_at hl 1 rfl) ?_
  refine r_ceqN (tgt := 971) hx hb (by decide) (by decide) dL_law_966 (by decide) (fun _ => ?_) (fun h => absurd rfl h)
  refine lv_iload hx hb dL_law_971 (lv_at hl 1 rfl) ?_
  refine r_ifneN (a := 1) (tgt := 988) hx hb (by decide) dL_law_973 (by decide) (fun _ => ?_) (fun h => absurd h (by decide))
  refine lv_goto (tgt := 1441) hx hb dL_law_988 (by decide) ?_
  exact kk _ _ _ _ _ _ _ _ (by omega) ⟨hPo, hPm, hS, hR⟩ (lv_sub hl [2, 3, 4, 5, 6] rfl)
set_option maxHeartbeats 4000000 in
set_option maxRecDepth 100000 in
theorem z_preferred_0 {p : Program} {l : Launch} {e : Env} {s : State} {m : MethodId} {below : List Frame} {meth : Method} {c9 : Code} {H : Heap} {cells slots : Nat} {Q : State → Prop} {ls : Array Slot} {D : va_G} {b0 L : Nat} {xs : Nat → Int32} {cI cA cL : ClassId} {ad am : Nat → Nat} {K n : Nat} {x y : Nat → Nat → Int32} {o : Nat → Int64} {th : Int32} {i : Nat} (C0 : lwC p l s m c9 b0 L xs D cI cA cL ad am) (S0 : lwS s D cI cA cL ad am K n x y o th H) (hK30 : K < 2 ^ 30) (hroom : cells + 1 ≤ room_1.cells ∧ slots + 6 ≤ room_1.slots) (hi : i + 4 < L) (hl : lv_has ls 7 [(0, .ref b0), (1, .ref (ad 0)), (2, .ref (am 0)), (3, .ref (ad 46)), (4, .int (nI i))]) (c : Nat) (hc : c < n) (e1 : xs (i + 1) = nI c) (kk : ∀ (K' n' : Nat) (x' y' : Nat → Nat → Int32) (o' : Nat → Int64) (th' : Int32) (H' : Heap) (ls' : Array Slot), K' ≤ K + 216 → lwS s D cI cA cL ad am K' n' x' y' o' th' H' → lv_has ls' 7 [(0, .ref b0), (1, .ref (ad 0)), (2, .ref (am 0)), (3, .ref (ad 46)), (4, .int (nI i))] → W p l e room_1 s m #[Value.ref b0] below meth c9 H' [] (cells + 1) (slots + 6) Q (F0 m 1441 ls' [])) : W p l e room_1 s m #[Value.ref b0] below meth c9 H [] cells slots Q (F0 m 1004 ls []) := by
  obtain ⟨hx, hb, hF, hK, hDo, hDm, hdis, hT, hXF, hC, hlt, hX, hbl, hL⟩ := C0
  obtain ⟨hPo, hPm, hS, hR⟩ := S0
  have hn9 : n ≤ 24 := hR.n24
  have hn : n ≤ 24 := hn9
  have hts := hF.2.2.2.2
  have hKm := hK.sub (tys' := [(cI, .int), (cA, .array .int)]) [0, 1] rfl
  have hAo : ∀ q, wA ad 47 q → s.heap.size ≤ q := fun q ⟨k, hk, eq⟩ => by rw [eq]; exact hDo.2 k hk
  have hAm : ∀ q, wA am 8 q → s.heap.size ≤ q := fun q ⟨k, hk, eq⟩ => by rw [eq]; exact hDm.2 k hk
  refine lv_aload_n hx hb dL_law_1004 rfl (lv_at hl 1 rfl) ?_
  refine lv_aload_n hx hb dL_law_1005 rfl (lv_at hl 0 rfl) ?_
  refine lv_iload hx hb dL_law_1006 (lv_at hl 4 rfl) ?_
  refine lv_iconst (v := nI 1) hx hb dL_law_1008 (by decide) ?_
  refine r_addN (r := i + 1) hx hb dL_law_1009 rfl ?_
  refine r_sld hx hb hX hbl hL hS (i := i + 1) (by omega) e1 dL_law_1010 ?_
  refine lv_aload_n hx hb dL_law_1011 rfl (lv_at hl 3 rfl) ?_
  refine k_L (vx_runSW (As := [.ref (ad 0), .int (nI c), .ref (ad 46)]) (rest := []) hF (w_preferred_0 l D cI cA ad n x c cL o hc hn) (vx_cwSW 3 hts gL_law_L_preferred rfl rfl rfl (by decide +kernel) ⟨(Nat.le_of_ble_eq_true rfl), (Nat.le_of_ble_eq_true rfl)⟩) (lw_pre hK hDo hT hXF hC hPo hS) rfl rfl hl.1 rfl (lv_room (Nat.le_of_ble_eq_true rfl)) dL_law_1012 hroom) hAo (fun H1 hP1 hz hk9 => ?_)
  have hPm := lw_keep (fun j hj ⟨k, hk, eq⟩ => hdis k j hk hj eq.symm) hPm hk9
  have hS := lw_S hAo hS hz hk9
  refine lv_istore (lv' := [(5, .int (nI 0)), (0, .ref b0), (1, .ref (ad 0)), (2, .ref (am 0)), (3, .ref (ad 46)), (4, .int (nI i))]) hx hb dL_law_1015 hl (by decide) rfl (fun ls hl => ?_)
  refine lv_aload_n hx hb dL_law_1017 rfl (lv_at hl 3 rfl) ?_
  refine lv_aload_n hx hb dL_law_1018 rfl (lv_at hl 1 rfl) ?_
  refine lv_iload hx hb dL_law_1019 (lv_at hl 5 rfl) ?_
  refine lv_iconst (v := nI 1) hx hb dL_law_1021 (by decide) ?_
  refine r_addN (r := i + 1) hx hb dL_law_1022 rfl ?_
  refine r_sld hx hb hX hbl hL hS (i := i + 1) (by omega) e1 dL_law_1023 ?_
  refine k_M (va_runV (As := [.int (nI c)]) (rest := []) hF (m_preferred_0 l D cI cA am th n y c (x 9) hc hn9 hR.grp) (cwV 1 hts gL_law_X4_preferred rfl rfl rfl (by decide +kernel) ⟨(Nat.le_of_ble_eq_true rfl), (Nat.le_of_ble_eq_true rfl)⟩) (k_pre hPm hKm hDm hT (k := 0) (by decide) mF_0 rfl) rfl rfl hl.1 rfl (lv_room (Nat.le_of_ble_eq_true rfl)) dL_law_1024 ⟨hroom.1, hroom.2⟩) hAm (fun H2 hPm hz hk9 => ?_)
  have hPo := lw_keep (fun j hj ⟨k, hk, eq⟩ => hdis j k hj hk eq) hP1 hk9
  have hS := lw_S hAm hS hz hk9
  refine r_topi (show _ = nI (prefF (x 4) (x 9 c) c n) from by rw [hR.pref hc]) ?_
  refine lv_istore (lv' := [(6, .int (nI (prefF (x 4) (x 9 c) c n))), (5, .int (nI 0)), (0, .ref b0), (1, .ref (ad 0)), (2, .ref (am 0)), (3, .ref (ad 46)), (4, .int (nI i))]) hx hb dL_law_1027 hl (by decide) rfl (fun ls hl => ?_)
  refine lv_aload_n hx hb dL_law_1029 rfl (lv_at hl 4 rfl) ?_
  refine k_Ri (va_runV (As := []) (rest := []) hF (c_X4_thrown l D cI cA am _ _ _) (cwV 0 hts gL_law_X4_thrown rfl rfl rfl (by decide +kernel) ⟨(Nat.le_of_ble_eq_true rfl), (Nat.le_of_ble_eq_true rfl)⟩) (k_pre hPm hKm hDm hT (k := 0) (by decide) mF_0 rfl) rfl rfl hl.1 rfl (lv_room (Nat.le_of_ble_eq_true rfl)) dL_law_1030 ⟨hroom.1, hroom.2⟩) ?_
  refine lv_iload hx hb dL_law_1033 (lv_at hl 1 rfl) ?_
  refine r_ceqN (tgt := 1040) hx hb (by decide) (by decide) dL_law_1035 (by decide) (fun _ => ?_) (fun h => absurd rfl h)
  refine lv_iload hx hb dL_law_1040 (lv_at hl 1 rfl) ?_
  refine r_ifneN (a := 0) (tgt := 1057) hx hb (by decide) dL_law_1042 (by decide) (fun h => absurd rfl h) (fun _ => ?_)
  refine lv_aload_n hx hb dL_law_1045 rfl (lv_at hl 5 rfl) ?_
  refine lv_iconst (v := nI 0) hx hb dL_law_1046 (by decide) ?_
  refine va_lald hx hb hK hPo 46 2 (wl_at (show 46 < 47 by decide)) rfl (vp_in_nI (by decide) (by decide)) dL_law_1047 ?_
  rw [oW_0 (w := (nI (prefF (x 4) (x 9 c) c n)).toInt64)]
  refine lv_iload hx hb dL_law_1048 (lv_at hl 0 rfl) ?_
  refine lv_i2l hx hb dL_law_1050 rfl ?_
  refine r_lcmpE hx hb dL_law_1051 ?_
  refine r_ifeqN (a := 0) (tgt := 1057) hx hb (by decide) dL_law_1052 (by decide) (fun _ => ?_) (fun h => absurd rfl h)
  refine lv_goto (tgt := 1441) hx hb dL_law_1057 (by decide) ?_
  exact kk _ _ _ _ _ _ _ _ (by omega) ⟨hPo, hPm, hS, hR⟩ (lv_sub hl [2, 3, 4, 5, 6] rfl)
set_option maxHeartbeats 4000000 in
set_option maxRecDepth 100000 in
theorem z_preferred_Ta {p : Program} {l : Launch} {e : Env} {s : State} {m : MethodId} {below : List Frame} {meth : Method} {c9 : Code} {H : Heap} {cells slots : Nat} {Q : State → Prop} {ls : Array Slot} {D : va_G} {b0 L : Nat} {xs : Nat → Int32} {cI cA cL : ClassId} {ad am : Nat → Nat} {K n : Nat} {x y : Nat → Nat → Int32} {o : Nat → Int64} {th : Int32} {i : Nat} (C0 : lwC p l s m c9 b0 L xs D cI cA cL ad am) (S0 : lwS s D cI cA cL ad am K n x y o th H) (hK30 : K < 2 ^ 30) (hroom : cells + 1 ≤ room_1.cells ∧ slots + 6 ≤ room_1.slots) (hi : i + 4 < L) (hl : lv_has ls 7 [(0, .ref b0), (1, .ref (ad 0)), (2, .ref (am 0)), (3, .ref (ad 46)), (4, .int (nI i))]) (a : Int32) (hca : cardB n a = false) (e1 : xs (i + 1) = a) (kk : ∀ (K' n' : Nat) (x' y' : Nat → Nat → Int32) (o' : Nat → Int64) (th' : Int32) (H' : Heap) (ls' : Array Slot), K' ≤ K + 216 → lwS s D cI cA cL ad am K' n' x' y' o' th' H' → lv_has ls' 7 [(0, .ref b0), (1, .ref (ad 0)), (2, .ref (am 0)), (3, .ref (ad 46)), (4, .int (nI i))] → W p l e room_1 s m #[Value.ref b0] below meth c9 H' [] (cells + 1) (slots + 6) Q (F0 m 1441 ls' [])) : W p l e room_1 s m #[Value.ref b0] below meth c9 H [] cells slots Q (F0 m 1004 ls []) := by
  obtain ⟨hx, hb, hF, hK, hDo, hDm, hdis, hT, hXF, hC, hlt, hX, hbl, hL⟩ := C0
  obtain ⟨hPo, hPm, hS, hR⟩ := S0
  have hn9 : n ≤ 24 := hR.n24
  have hn : n ≤ 24 := hn9
  have hts := hF.2.2.2.2
  have hKm := hK.sub (tys' := [(cI, .int), (cA, .array .int)]) [0, 1] rfl
  have hAo : ∀ q, wA ad 47 q → s.heap.size ≤ q := fun q ⟨k, hk, eq⟩ => by rw [eq]; exact hDo.2 k hk
  have hAm : ∀ q, wA am 8 q → s.heap.size ≤ q := fun q ⟨k, hk, eq⟩ => by rw [eq]; exact hDm.2 k hk
  refine lv_aload_n hx hb dL_law_1004 rfl (lv_at hl 1 rfl) ?_
  refine lv_aload_n hx hb dL_law_1005 rfl (lv_at hl 0 rfl) ?_
  refine lv_iload hx hb dL_law_1006 (lv_at hl 4 rfl) ?_
  refine lv_iconst (v := nI 1) hx hb dL_law_1008 (by decide) ?_
  refine r_addN (r := i + 1) hx hb dL_law_1009 rfl ?_
  refine r_sld hx hb hX hbl hL hS (i := i + 1) (by omega) e1 dL_law_1010 ?_
  refine lv_aload_n hx hb dL_law_1011 rfl (lv_at hl 3 rfl) ?_
  refine k_L (vx_runSW (As := [.ref (ad 0), .int a, .ref (ad 46)]) (rest := []) hF (w_preferred_Ta l D cI cA ad n x a cL o hlt hca) (vx_cwSW 3 hts gL_law_L_preferred rfl rfl rfl (by decide +kernel) ⟨(Nat.le_of_ble_eq_true rfl), (Nat.le_of_ble_eq_true rfl)⟩) (lw_pre hK hDo hT hXF hC hPo hS) rfl rfl hl.1 rfl (lv_room (Nat.le_of_ble_eq_true rfl)) dL_law_1012 hroom) hAo (fun H1 hP1 hz hk9 => ?_)
  have hPm := lw_keep (fun j hj ⟨k, hk, eq⟩ => hdis k j hk hj eq.symm) hPm hk9
  have hS := lw_S hAo hS hz hk9
  refine lv_istore (lv' := [(5, .int (nI 1)), (0, .ref b0), (1, .ref (ad 0)), (2, .ref (am 0)), (3, .ref (ad 46)), (4, .int (nI i))]) hx hb dL_law_1015 hl (by decide) rfl (fun ls hl => ?_)
  refine lv_aload_n hx hb dL_law_1017 rfl (lv_at hl 3 rfl) ?_
  refine lv_aload_n hx hb dL_law_1018 rfl (lv_at hl 1 rfl) ?_
  refine lv_iload hx hb dL_law_1019 (lv_at hl 5 rfl) ?_
  refine lv_iconst (v := nI 1) hx hb dL_law_1021 (by decide) ?_
  refine r_addN (r := i + 1) hx hb dL_law_1022 rfl ?_
  refine r_sld hx hb hX hbl hL hS (i := i + 1) (by omega) e1 dL_law_1023 ?_
  refine k_M (va_runV (As := [.int a]) (rest := []) hF (m_preferred_1 l D cI cA am th n y a hca hn9) (cwV 1 hts gL_law_X4_preferred rfl rfl rfl (by decide +kernel) ⟨(Nat.le_of_ble_eq_true rfl), (Nat.le_of_ble_eq_true rfl)⟩) (k_pre hPm hKm hDm hT (k := 0) (by decide) mF_0 rfl) rfl rfl hl.1 rfl (lv_room (Nat.le_of_ble_eq_true rfl)) dL_law_1024 ⟨hroom.1, hroom.2⟩) hAm (fun H2 hPm hz hk9 => ?_)
  have hPo := lw_keep (fun j hj ⟨k, hk, eq⟩ => hdis j k hj hk eq) hP1 hk9
  have hS := lw_S hAm hS hz hk9
  refine lv_istore (lv' := [(6, .int (nI 0)), (5, .int (nI 1)), (0, .ref b0), (1, .ref (ad 0)), (2, .ref (am 0)), (3, .ref (ad 46)), (4, .int (nI i))]) hx hb dL_law_1027 hl (by decide) rfl (fun ls hl => ?_)
  refine lv_aload_n hx hb dL_law_1029 rfl (lv_at hl 4 rfl) ?_
  refine k_Ri (va_runV (As := []) (rest := []) hF (c_X4_thrown l D cI cA am _ _ _) (cwV 0 hts gL_law_X4_thrown rfl rfl rfl (by decide +kernel) ⟨(Nat.le_of_ble_eq_true rfl), (Nat.le_of_ble_eq_true rfl)⟩) (k_pre hPm hKm hDm hT (k := 0) (by decide) mF_0 rfl) rfl rfl hl.1 rfl (lv_room (Nat.le_of_ble_eq_true rfl)) dL_law_1030 ⟨hroom.1, hroom.2⟩) ?_
  refine lv_iload hx hb dL_law_1033 (lv_at hl 1 rfl) ?_
  refine r_ceqN (tgt := 1040) hx hb (by decide) (by decide) dL_law_1035 (by decide) (fun _ => ?_) (fun h => absurd rfl h)
  refine lv_iload hx hb dL_law_1040 (lv_at hl 1 rfl) ?_
  refine r_ifneN (a := 1) (tgt := 1057) hx hb (by decide) dL_law_1042 (by decide) (fun _ => ?_) (fun h => absurd h (by decide))
  refine lv_goto (tgt := 1441) hx hb dL_law_1057 (by decide) ?_
  exact kk _ _ _ _ _ _ _ _ (by omega) ⟨hPo, hPm, hS, hR⟩ (lv_sub hl [2, 3, 4, 5, 6] rfl)
set_option maxHeartbeats 4000000 in
set_option maxRecDepth 100000 in
theorem z_shown_0 {p : Program} {l : Launch} {e : Env} {s : State} {m : MethodId} {below : List Frame} {meth : Method} {c9 : Code} {H : Heap} {cells slots : Nat} {Q : State → Prop} {ls : Array Slot} {D : va_G} {b0 L : Nat} {xs : Nat → Int32} {cI cA cL : ClassId} {ad am : Nat → Nat} {K n : Nat} {x y : Nat → Nat → Int32} {o : Nat → Int64} {th : Int32} {i : Nat} (C0 : lwC p l s m c9 b0 L xs D cI cA cL ad am) (S0 : lwS s D cI cA cL ad am K n x y o th H) (hK30 : K < 2 ^ 30) (hroom : cells + 1 ≤ room_1.cells ∧ slots + 6 ≤ room_1.slots) (hi : i + 4 < L) (hl : lv_has ls 7 [(0, .ref b0), (1, .ref (ad 0)), (2, .ref (am 0)), (3, .ref (ad 46)), (4, .int (nI i))]) (c : Nat) (k : Nat) (hc : c < n) (hk : k < 2) (e1 : xs (i + 1) = nI c) (e2 : xs (i + 2) = nI k) (kk : ∀ (K' n' : Nat) (x' y' : Nat → Nat → Int32) (o' : Nat → Int64) (th' : Int32) (H' : Heap) (ls' : Array Slot), K' ≤ K + 216 → lwS s D cI cA cL ad am K' n' x' y' o' th' H' → lv_has ls' 7 [(0, .ref b0), (1, .ref (ad 0)), (2, .ref (am 0)), (3, .ref (ad 46)), (4, .int (nI i))] → W p l e room_1 s m #[Value.ref b0] below meth c9 H' [] (cells + 1) (slots + 6) Q (F0 m 1441 ls' [])) : W p l e room_1 s m #[Value.ref b0] below meth c9 H [] cells slots Q (F0 m 1060 ls []) := by
  obtain ⟨hx, hb, hF, hK, hDo, hDm, hdis, hT, hXF, hC, hlt, hX, hbl, hL⟩ := C0
  obtain ⟨hPo, hPm, hS, hR⟩ := S0
  have hn9 : n ≤ 24 := hR.n24
  have hn : n ≤ 24 := hn9
  have hts := hF.2.2.2.2
  have hKm := hK.sub (tys' := [(cI, .int), (cA, .array .int)]) [0, 1] rfl
  have hAo : ∀ q, wA ad 47 q → s.heap.size ≤ q := fun q ⟨k, hk, eq⟩ => by rw [eq]; exact hDo.2 k hk
  have hAm : ∀ q, wA am 8 q → s.heap.size ≤ q := fun q ⟨k, hk, eq⟩ => by rw [eq]; exact hDm.2 k hk
  refine lv_aload_n hx hb dL_law_1060 rfl (lv_at hl 1 rfl) ?_
  refine lv_aload_n hx hb dL_law_1061 rfl (lv_at hl 0 rfl) ?_
  refine lv_iload hx hb dL_law_1062 (lv_at hl 4 rfl) ?_
  refine lv_iconst (v := nI 1) hx hb dL_law_1064 (by decide) ?_
  refine r_addN (r := i + 1) hx hb dL_law_1065 rfl ?_
  refine r_sld hx hb hX hbl hL hS (i := i + 1) (by omega) e1 dL_law_1066 ?_
  refine lv_aload_n hx hb dL_law_1067 rfl (lv_at hl 0 rfl) ?_
  refine lv_iload hx hb dL_law_1068 (lv_at hl 4 rfl) ?_
  refine lv_iconst (v := nI 2) hx hb dL_law_1070 (by decide) ?_
  refine r_addN (r := i + 2) hx hb dL_law_1071 rfl ?_
  refine r_sld hx hb hX hbl hL hS (i := i + 2) (by omega) e2 dL_law_1072 ?_
  refine lv_aload_n hx hb dL_law_1073 rfl (lv_at hl 3 rfl) ?_
  refine k_L (vx_runSW (As := [.ref (ad 0), .int (nI c), .int (nI k), .ref (ad 46)]) (rest := []) hF (w_shown_0 l D cI cA ad n x c k cL o hc hn hk) (vx_cwSW 4 hts gL_law_L_shown rfl rfl rfl (by decide +kernel) ⟨(Nat.le_of_ble_eq_true rfl), (Nat.le_of_ble_eq_true rfl)⟩) (lw_pre hK hDo hT hXF hC hPo hS) rfl rfl hl.1 rfl (lv_room (Nat.le_of_ble_eq_true rfl)) dL_law_1074 hroom) hAo (fun H1 hP1 hz hk9 => ?_)
  have hPm := lw_keep (fun j hj ⟨k, hk, eq⟩ => hdis k j hk hj eq.symm) hPm hk9
  have hS := lw_S hAo hS hz hk9
  refine lv_istore (lv' := [(5, .int (nI 0)), (0, .ref b0), (1, .ref (ad 0)), (2, .ref (am 0)), (3, .ref (ad 46)), (4, .int (nI i))]) hx hb dL_law_1077 hl (by decide) rfl (fun ls hl => ?_)
  refine lv_aload_n hx hb dL_law_1079 rfl (lv_at hl 3 rfl) ?_
  refine lv_aload_n hx hb dL_law_1080 rfl (lv_at hl 1 rfl) ?_
  refine lv_iload hx hb dL_law_1081 (lv_at hl 5 rfl) ?_
  refine lv_iconst (v := nI 1) hx hb dL_law_1083 (by decide) ?_
  refine r_addN (r := i + 1) hx hb dL_law_1084 rfl ?_
  refine r_sld hx hb hX hbl hL hS (i := i + 1) (by omega) e1 dL_law_1085 ?_
  refine lv_aload_n hx hb dL_law_1086 rfl (lv_at hl 1 rfl) ?_
  refine lv_iload hx hb dL_law_1087 (lv_at hl 5 rfl) ?_
  refine lv_iconst (v := nI 2) hx hb dL_law_1089 (by decide) ?_
  refine r_addN (r := i + 2) hx hb dL_law_1090 rfl ?_
  refine r_sld hx hb hX hbl hL hS (i := i + 2) (by omega) e2 dL_law_1091 ?_
  refine k_M (va_runV (As := [.int (nI c), .int (nI k)]) (rest := []) hF (m_shown_0 l D cI cA am th n y c k (x 9) hc hn9 hk hR.grp) (cwV 2 hts gL_law_X4_shown rfl rfl rfl (by decide +kernel) ⟨(Nat.le_of_ble_eq_true rfl), (Nat.le_of_ble_eq_true rfl)⟩) (k_pre hPm hKm hDm hT (k := 0) (by decide) mF_0 rfl) rfl rfl hl.1 rfl (lv_room (Nat.le_of_ble_eq_true rfl)) dL_law_1092 ⟨hroom.1, hroom.2⟩) hAm (fun H2 hPm hz hk9 => ?_)
  have hPo := lw_keep (fun j hj ⟨k, hk, eq⟩ => hdis j k hj hk eq) hP1 hk9
  have hS := lw_S hAm hS hz hk9
  refine r_topi (show _ = orF (x 9 c) (x (k + 16)) n from (hR.orE hk).symm) ?_
  refine lv_istore (lv' := [(6, .int (orF (x 9 c) (x (k + 16)) n)), (5, .int (nI 0)), (0, .ref b0), (1, .ref (ad 0)), (2, .ref (am 0)), (3, .ref (ad 46)), (4, .int (nI i))]) hx hb dL_law_1095 hl (by decide) rfl (fun ls hl => ?_)
  refine lv_aload_n hx hb dL_law_1097 rfl (lv_at hl 4 rfl) ?_
  refine k_Ri (va_runV (As := []) (rest := []) hF (c_X4_thrown l D cI cA am _ _ _) (cwV 0 hts gL_law_X4_thrown rfl rfl rfl (by decide +kernel) ⟨(Nat.le_of_ble_eq_true rfl), (Nat.le_of_ble_eq_true rfl)⟩) (k_pre hPm hKm hDm hT (k := 0) (by decide) mF_0 rfl) rfl rfl hl.1 rfl (lv_room (Nat.le_of_ble_eq_true rfl)) dL_law_1098 ⟨hroom.1, hroom.2⟩) ?_
  refine lv_iload hx hb dL_law_1101 (lv_at hl 1 rfl) ?_
  refine r_ceqN (tgt := 1108) hx hb (by decide) (by decide) dL_law_1103 (by decide) (fun _ => ?_) (fun h => absurd rfl h)
  refine lv_iload hx hb dL_law_1108 (lv_at hl 1 rfl) ?_
  refine r_ifneN (a := 0) (tgt := 1125) hx hb (by decide) dL_law_1110 (by decide) (fun h => absurd rfl h) (fun _ => ?_)
  refine lv_aload_n hx hb dL_law_1113 rfl (lv_at hl 5 rfl) ?_
  refine lv_iconst (v := nI 0) hx hb dL_law_1114 (by decide) ?_
  refine va_lald hx hb hK hPo 46 2 (wl_at (show 46 < 47 by decide)) rfl (vp_in_nI (by decide) (by decide)) dL_law_1115 ?_
  rw [oW_0 (w := (orF (x 9 c) (x (k + 16)) n).toInt64)]
  refine lv_iload hx hb dL_law_1116 (lv_at hl 0 rfl) ?_
  refine lv_i2l hx hb dL_law_1118 rfl ?_
  refine r_lcmpE hx hb dL_law_1119 ?_
  refine r_ifeqN (a := 0) (tgt := 1125) hx hb (by decide) dL_law_1120 (by decide) (fun _ => ?_) (fun h => absurd rfl h)
  refine lv_goto (tgt := 1441) hx hb dL_law_1125 (by decide) ?_
  exact kk _ _ _ _ _ _ _ _ (by omega) ⟨hPo, hPm, hS, hR⟩ (lv_sub hl [2, 3, 4, 5, 6] rfl)
set_option maxHeartbeats 4000000 in
set_option maxRecDepth 100000 in
theorem z_shown_Ta {p : Program} {l : Launch} {e : Env} {s : State} {m : MethodId} {below : List Frame} {meth : Method} {c9 : Code} {H : Heap} {cells slots : Nat} {Q : State → Prop} {ls : Array Slot} {D : va_G} {b0 L : Nat} {xs : Nat → Int32} {cI cA cL : ClassId} {ad am : Nat → Nat} {K n : Nat} {x y : Nat → Nat → Int32} {o : Nat → Int64} {th : Int32} {i : Nat} (C0 : lwC p l s m c9 b0 L xs D cI cA cL ad am) (S0 : lwS s D cI cA cL ad am K n x y o th H) (hK30 : K < 2 ^ 30) (hroom : cells + 1 ≤ room_1.cells ∧ slots + 6 ≤ room_1.slots) (hi : i + 4 < L) (hl : lv_has ls 7 [(0, .ref b0), (1, .ref (ad 0)), (2, .ref (am 0)), (3, .ref (ad 46)), (4, .int (nI i))]) (a : Int32) (k : Int32) (hca : cardB n a = false) (e1 : xs (i + 1) = a) (e2 : xs (i + 2) = k) (kk : ∀ (K' n' : Nat) (x' y' : Nat → Nat → Int32) (o' : Nat → Int64) (th' : Int32) (H' : Heap) (ls' : Array Slot), K' ≤ K + 216 → lwS s D cI cA cL ad am K' n' x' y' o' th' H' → lv_has ls' 7 [(0, .ref b0), (1, .ref (ad 0)), (2, .ref (am 0)), (3, .ref (ad 46)), (4, .int (nI i))] → W p l e room_1 s m #[Value.ref b0] below meth c9 H' [] (cells + 1) (slots + 6) Q (F0 m 1441 ls' [])) : W p l e room_1 s m #[Value.ref b0] below meth c9 H [] cells slots Q (F0 m 1060 ls []) := by
  obtain ⟨hx, hb, hF, hK, hDo, hDm, hdis, hT, hXF, hC, hlt, hX, hbl, hL⟩ := C0
  obtain ⟨hPo, hPm, hS, hR⟩ := S0
  have hn9 : n ≤ 24 := hR.n24
  have hn : n ≤ 24 := hn9
  have hts := hF.2.2.2.2
  have hKm := hK.sub (tys' := [(cI, .int), (cA, .array .int)]) [0, 1] rfl
  have hAo : ∀ q, wA ad 47 q → s.heap.size ≤ q := fun q ⟨k, hk, eq⟩ => by rw [eq]; exact hDo.2 k hk
  have hAm : ∀ q, wA am 8 q → s.heap.size ≤ q := fun q ⟨k, hk, eq⟩ => by rw [eq]; exact hDm.2 k hk
  refine lv_aload_n hx hb dL_law_1060 rfl (lv_at hl 1 rfl) ?_
  refine lv_aload_n hx hb dL_law_1061 rfl (lv_at hl 0 rfl) ?_
  refine lv_iload hx hb dL_law_1062 (lv_at hl 4 rfl) ?_
  refine lv_iconst (v := nI 1) hx hb dL_law_1064 (by decide) ?_
  refine r_addN (r := i + 1) hx hb dL_law_1065 rfl ?_
  refine r_sld hx hb hX hbl hL hS (i := i + 1) (by omega) e1 dL_law_1066 ?_
  refine lv_aload_n hx hb dL_law_1067 rfl (lv_at hl 0 rfl) ?_
  refine lv_iload hx hb dL_law_1068 (lv_at hl 4 rfl) ?_
  refine lv_iconst (v := nI 2) hx hb dL_law_1070 (by decide) ?_
  refine r_addN (r := i + 2) hx hb dL_law_1071 rfl ?_
  refine r_sld hx hb hX hbl hL hS (i := i + 2) (by omega) e2 dL_law_1072 ?_
  refine lv_aload_n hx hb dL_law_1073 rfl (lv_at hl 3 rfl) ?_
  refine k_L (vx_runSW (As := [.ref (ad 0), .int a, .int k, .ref (ad 46)]) (rest := []) hF (w_shown_Ta l D cI cA ad n x a k cL o hlt hca) (vx_cwSW 4 hts gL_law_L_shown rfl rfl rfl (by decide +kernel) ⟨(Nat.le_of_ble_eq_true rfl), (Nat.le_of_ble_eq_true rfl)⟩) (lw_pre hK hDo hT hXF hC hPo hS) rfl rfl hl.1 rfl (lv_room (Nat.le_of_ble_eq_true rfl)) dL_law_1074 hroom) hAo (fun H1 hP1 hz hk9 => ?_)
  have hPm := lw_keep (fun j hj ⟨k, hk, eq⟩ => hdis k j hk hj eq.symm) hPm hk9
  have hS := lw_S hAo hS hz hk9
  refine lv_istore (lv' := [(5, .int (nI 1)), (0, .ref b0), (1, .ref (ad 0)), (2, .ref (am 0)), (3, .ref (ad 46)), (4, .int (nI i))]) hx hb dL_law_1077 hl (by decide) rfl (fun ls hl => ?_)
  refine lv_aload_n hx hb dL_law_1079 rfl (lv_at hl 3 rfl) ?_
  refine lv_aload_n hx hb dL_law_1080 rfl (lv_at hl 1 rfl) ?_
  refine lv_iload hx hb dL_law_1081 (lv_at hl 5 rfl) ?_
  refine lv_iconst (v := nI 1) hx hb dL_law_1083 (by decide) ?_
  refine r_addN (r := i + 1) hx hb dL_law_1084 rfl ?_
  refine r_sld hx hb hX hbl hL hS (i := i + 1) (by omega) e1 dL_law_1085 ?_
  refine lv_aload_n hx hb dL_law_1086 rfl (lv_at hl 1 rfl) ?_
  refine lv_iload hx hb dL_law_1087 (lv_at hl 5 rfl) ?_
  refine lv_iconst (v := nI 2) hx hb dL_law_1089 (by decide) ?_
  refine r_addN (r := i + 2) hx hb dL_law_1090 rfl ?_
  refine r_sld hx hb hX hbl hL hS (i := i + 2) (by omega) e2 dL_law_1091 ?_
  refine k_M (va_runV (As := [.int a, .int k]) (rest := []) hF (m_shown_1 l D cI cA am th n y a k hca hn9) (cwV 2 hts gL_law_X4_shown rfl rfl rfl (by decide +kernel) ⟨(Nat.le_of_ble_eq_true rfl), (Nat.le_of_ble_eq_true rfl)⟩) (k_pre hPm hKm hDm hT (k := 0) (by decide) mF_0 rfl) rfl rfl hl.1 rfl (lv_room (Nat.le_of_ble_eq_true rfl)) dL_law_1092 ⟨hroom.1, hroom.2⟩) hAm (fun H2 hPm hz hk9 => ?_)
  have hPo := lw_keep (fun j hj ⟨k, hk, eq⟩ => hdis j k hj hk eq) hP1 hk9
  have hS := lw_S hAm hS hz hk9
  refine lv_istore (lv' := [(6, .int (nI 0)), (5, .int (nI 1)), (0, .ref b0), (1, .ref (ad 0)), (2, .ref (am 0)), (3, .ref (ad 46)), (4, .int (nI i))]) hx hb dL_law_1095 hl (by decide) rfl (fun ls hl => ?_)
  refine lv_aload_n hx hb dL_law_1097 rfl (lv_at hl 4 rfl) ?_
  refine k_Ri (va_runV (As := []) (rest := []) hF (c_X4_thrown l D cI cA am _ _ _) (cwV 0 hts gL_law_X4_thrown rfl rfl rfl (by decide +kernel) ⟨(Nat.le_of_ble_eq_true rfl), (Nat.le_of_ble_eq_true rfl)⟩) (k_pre hPm hKm hDm hT (k := 0) (by decide) mF_0 rfl) rfl rfl hl.1 rfl (lv_room (Nat.le_of_ble_eq_true rfl)) dL_law_1098 ⟨hroom.1, hroom.2⟩) ?_
  refine lv_iload hx hb dL_law_1101 (lv_at hl 1 rfl) ?_
  refine r_ceqN (tgt := 1108) hx hb (by decide) (by decide) dL_law_1103 (by decide) (fun _ => ?_) (fun h => absurd rfl h)
  refine lv_iload hx hb dL_law_1108 (lv_at hl 1 rfl) ?_
  refine r_ifneN (a := 1) (tgt := 1125) hx hb (by decide) dL_law_1110 (by decide) (fun _ => ?_) (fun h => absurd h (by decide))
  refine lv_goto (tgt := 1441) hx hb dL_law_1125 (by decide) ?_
  exact kk _ _ _ _ _ _ _ _ (by omega) ⟨hPo, hPm, hS, hR⟩ (lv_sub hl [2, 3, 4, 5, 6] rfl)
set_option maxHeartbeats 4000000 in
set_option maxRecDepth 100000 in
theorem z_shown_Tb {p : Program} {l : Launch} {e : Env} {s : State} {m : MethodId} {below : List Frame} {meth : Method} {c9 : Code} {H : Heap} {cells slots : Nat} {Q : State → Prop} {ls : Array Slot} {D : va_G} {b0 L : Nat} {xs : Nat → Int32} {cI cA cL : ClassId} {ad am : Nat → Nat} {K n : Nat} {x y : Nat → Nat → Int32} {o : Nat → Int64} {th : Int32} {i : Nat} (C0 : lwC p l s m c9 b0 L xs D cI cA cL ad am) (S0 : lwS s D cI cA cL ad am K n x y o th H) (hK30 : K < 2 ^ 30) (hroom : cells + 1 ≤ room_1.cells ∧ slots + 6 ≤ room_1.slots) (hi : i + 4 < L) (hl : lv_has ls 7 [(0, .ref b0), (1, .ref (ad 0)), (2, .ref (am 0)), (3, .ref (ad 46)), (4, .int (nI i))]) (c : Nat) (k : Int32) (hc : c < n) (hbad : (kindB k) = false) (e1 : xs (i + 1) = nI c) (e2 : xs (i + 2) = k) (kk : ∀ (K' n' : Nat) (x' y' : Nat → Nat → Int32) (o' : Nat → Int64) (th' : Int32) (H' : Heap) (ls' : Array Slot), K' ≤ K + 216 → lwS s D cI cA cL ad am K' n' x' y' o' th' H' → lv_has ls' 7 [(0, .ref b0), (1, .ref (ad 0)), (2, .ref (am 0)), (3, .ref (ad 46)), (4, .int (nI i))] → W p l e room_1 s m #[Value.ref b0] below meth c9 H' [] (cells + 1) (slots + 6) Q (F0 m 1441 ls' [])) : W p l e room_1 s m #[Value.ref b0] below meth c9 H [] cells slots Q (F0 m 1060 ls []) := by
  obtain ⟨hx, hb, hF, hK, hDo, hDm, hdis, hT, hXF, hC, hlt, hX, hbl, hL⟩ := C0
  obtain ⟨hPo, hPm, hS, hR⟩ := S0
  have hn9 : n ≤ 24 := hR.n24
  have hn : n ≤ 24 := hn9
  have hts := hF.2.2.2.2
  have hKm := hK.sub (tys' := [(cI, .int), (cA, .array .int)]) [0, 1] rfl
  have hAo : ∀ q, wA ad 47 q → s.heap.size ≤ q := fun q ⟨k, hk, eq⟩ => by rw [eq]; exact hDo.2 k hk
  have hAm : ∀ q, wA am 8 q → s.heap.size ≤ q := fun q ⟨k, hk, eq⟩ => by rw [eq]; exact hDm.2 k hk
  refine lv_aload_n hx hb dL_law_1060 rfl (lv_at hl 1 rfl) ?_
  refine lv_aload_n hx hb dL_law_1061 rfl (lv_at hl 0 rfl) ?_
  refine lv_iload hx hb dL_law_1062 (lv_at hl 4 rfl) ?_
  refine lv_iconst (v := nI 1) hx hb dL_law_1064 (by decide) ?_
  refine r_addN (r := i + 1) hx hb dL_law_1065 rfl ?_
  refine r_sld hx hb hX hbl hL hS (i := i + 1) (by omega) e1 dL_law_1066 ?_
  refine lv_aload_n hx hb dL_law_1067 rfl (lv_at hl 0 rfl) ?_
  refine lv_iload hx hb dL_law_1068 (lv_at hl 4 rfl) ?_
  refine lv_iconst (v := nI 2) hx hb dL_law_1070 (by decide) ?_
  refine r_addN (r := i + 2) hx hb dL_law_1071 rfl ?_
  refine r_sld hx hb hX hbl hL hS (i := i + 2) (by omega) e2 dL_law_1072 ?_
  refine lv_aload_n hx hb dL_law_1073 rfl (lv_at hl 3 rfl) ?_
  refine k_L (vx_runSW (As := [.ref (ad 0), .int (nI c), .int k, .ref (ad 46)]) (rest := []) hF (w_shown_Tb l D cI cA ad n x c k cL o hlt hc hn hbad) (vx_cwSW 4 hts gL_law_L_shown rfl rfl rfl (by decide +kernel) ⟨(Nat.le_of_ble_eq_true rfl), (Nat.le_of_ble_eq_true rfl)⟩) (lw_pre hK hDo hT hXF hC hPo hS) rfl rfl hl.1 rfl (lv_room (Nat.le_of_ble_eq_true rfl)) dL_law_1074 hroom) hAo (fun H1 hP1 hz hk9 => ?_)
  have hPm := lw_keep (fun j hj ⟨k, hk, eq⟩ => hdis k j hk hj eq.symm) hPm hk9
  have hS := lw_S hAo hS hz hk9
  refine lv_istore (lv' := [(5, .int (nI 2)), (0, .ref b0), (1, .ref (ad 0)), (2, .ref (am 0)), (3, .ref (ad 46)), (4, .int (nI i))]) hx hb dL_law_1077 hl (by decide) rfl (fun ls hl => ?_)
  refine lv_aload_n hx hb dL_law_1079 rfl (lv_at hl 3 rfl) ?_
  refine lv_aload_n hx hb dL_law_1080 rfl (lv_at hl 1 rfl) ?_
  refine lv_iload hx hb dL_law_1081 (lv_at hl 5 rfl) ?_
  refine lv_iconst (v := nI 1) hx hb dL_law_1083 (by decide) ?_
  refine r_addN (r := i + 1) hx hb dL_law_1084 rfl ?_
  refine r_sld hx hb hX hbl hL hS (i := i + 1) (by omega) e1 dL_law_1085 ?_
  refine lv_aload_n hx hb dL_law_1086 rfl (lv_at hl 1 rfl) ?_
  refine lv_iload hx hb dL_law_1087 (lv_at hl 5 rfl) ?_
  refine lv_iconst (v := nI 2) hx hb dL_law_1089 (by decide) ?_
  refine r_addN (r := i + 2) hx hb dL_law_1090 rfl ?_
  refine r_sld hx hb hX hbl hL hS (i := i + 2) (by omega) e2 dL_law_1091 ?_
  refine k_M (va_runV (As := [.int (nI c), .int k]) (rest := []) hF (m_shown_2 l D cI cA am th n y c k hc hn9 hbad) (cwV 2 hts gL_law_X4_shown rfl rfl rfl (by decide +kernel) ⟨(Nat.le_of_ble_eq_true rfl), (Nat.le_of_ble_eq_true rfl)⟩) (k_pre hPm hKm hDm hT (k := 0) (by decide) mF_0 rfl) rfl rfl hl.1 rfl (lv_room (Nat.le_of_ble_eq_true rfl)) dL_law_1092 ⟨hroom.1, hroom.2⟩) hAm (fun H2 hPm hz hk9 => ?_)
  have hPo := lw_keep (fun j hj ⟨k, hk, eq⟩ => hdis j k hj hk eq) hP1 hk9
  have hS := lw_S hAm hS hz hk9
  refine lv_istore (lv' := [(6, .int (nI 0)), (5, .int (nI 2)), (0, .ref b0), (1, .ref (ad 0)), (2, .ref (am 0)), (3, .ref (ad 46)), (4, .int (nI i))]) hx hb dL_law_1095 hl (by decide) rfl (fun ls hl => ?_)
  refine lv_aload_n hx hb dL_law_1097 rfl (lv_at hl 4 rfl) ?_
  refine k_Ri (va_runV (As := []) (rest := []) hF (c_X4_thrown l D cI cA am _ _ _) (cwV 0 hts gL_law_X4_thrown rfl rfl rfl (by decide +kernel) ⟨(Nat.le_of_ble_eq_true rfl), (Nat.le_of_ble_eq_true rfl)⟩) (k_pre hPm hKm hDm hT (k := 0) (by decide) mF_0 rfl) rfl rfl hl.1 rfl (lv_room (Nat.le_of_ble_eq_true rfl)) dL_law_1098 ⟨hroom.1, hroom.2⟩) ?_
  refine lv_iload hx hb dL_law_1101 (lv_at hl 1 rfl) ?_
  refine r_ceqN (tgt := 1108) hx hb (by decide) (by decide) dL_law_1103 (by decide) (fun _ => ?_) (fun h => absurd rfl h)
  refine lv_iload hx hb dL_law_1108 (lv_at hl 1 rfl) ?_
  refine r_ifneN (a := 2) (tgt := 1125) hx hb (by decide) dL_law_1110 (by decide) (fun _ => ?_) (fun h => absurd h (by decide))
  refine lv_goto (tgt := 1441) hx hb dL_law_1125 (by decide) ?_
  exact kk _ _ _ _ _ _ _ _ (by omega) ⟨hPo, hPm, hS, hR⟩ (lv_sub hl [2, 3, 4, 5, 6] rfl)
