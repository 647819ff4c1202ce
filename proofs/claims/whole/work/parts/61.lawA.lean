set_option maxHeartbeats 4000000 in
set_option maxRecDepth 100000 in
theorem z_add_0 {p : Program} {l : Launch} {e : Env} {s : State} {m : MethodId} {below : List Frame} {meth : Method} {c9 : Code} {H : Heap} {cells slots : Nat} {Q : State → Prop} {ls : Array Slot} {D : va_G} {b0 L : Nat} {xs : Nat → Int32} {cI cA cL : ClassId} {ad am : Nat → Nat} {K n : Nat} {x y : Nat → Nat → Int32} {o : Nat → Int64} {th : Int32} {i : Nat} (C0 : lwC p l s m c9 b0 L xs D cI cA cL ad am) (S0 : lwS s D cI cA cL ad am K n x y o th H) (hK30 : K < 2 ^ 30) (hroom : cells + 1 ≤ room_1.cells ∧ slots + 6 ≤ room_1.slots) (hi : i + 4 < L) (hl : lv_has ls 7 [(0, .ref b0), (1, .ref (ad 0)), (2, .ref (am 0)), (3, .ref (ad 46)), (4, .int (nI i))]) (b : Int32) (w : Int32) (hbk : bookB b = true) (hnm : nameB w = true) (hn : n < 24) (e1 : xs (i + 1) = b) (e2 : xs (i + 2) = w) (kk : ∀ (K' n' : Nat) (x' y' : Nat → Nat → Int32) (o' : Nat → Int64) (th' : Int32) (H' : Heap) (ls' : Array Slot), K' ≤ K + 216 → lwS s D cI cA cL ad am K' n' x' y' o' th' H' → lv_has ls' 7 [(0, .ref b0), (1, .ref (ad 0)), (2, .ref (am 0)), (3, .ref (ad 46)), (4, .int (nI i))] → W p l e room_1 s m #[Value.ref b0] below meth c9 H' [] (cells + 1) (slots + 6) Q (F0 m 1441 ls' [])) : W p l e room_1 s m #[Value.ref b0] below meth c9 H [] cells slots Q (F0 m 136 ls []) := by
  obtain ⟨hx, hb, hF, hK, hDo, hDm, hdis, hT, hXF, hC, hlt, hX, hbl, hL⟩ := C0
  obtain ⟨hPo, hPm, hS, hR⟩ := S0
  have hn9 : n ≤ 24 := hR.n24
  have hts := hF.2.2.2.2
  have hKm := hK.sub (tys' := [(cI, .int), (cA, .array .int)]) [0, 1] rfl
  have hAo : ∀ q, wA ad 47 q → s.heap.size ≤ q := fun q ⟨k, hk, eq⟩ => by rw [eq]; exact hDo.2 k hk
  have hAm : ∀ q, wA am 8 q → s.heap.size ≤ q := fun q ⟨k, hk, eq⟩ => by rw [eq]; exact hDm.2 k hk
  refine lv_aload_n hx hb dL_law_136 rfl (lv_at hl 1 rfl) ?_
  refine lv_aload_n hx hb dL_law_137 rfl (lv_at hl 0 rfl) ?_
  refine lv_iload hx hb dL_law_138 (lv_at hl 4 rfl) ?_
  refine lv_iconst (v := nI 1) hx hb dL_law_140 (by decide) ?_
  refine r_addN (r := i + 1) hx hb dL_law_141 rfl ?_
  refine r_sld hx hb hX hbl hL hS (i := i + 1) (by omega) e1 dL_law_142 ?_
  refine lv_aload_n hx hb dL_law_143 rfl (lv_at hl 0 rfl) ?_
  refine lv_iload hx hb dL_law_144 (lv_at hl 4 rfl) ?_
  refine lv_iconst (v := nI 2) hx hb dL_law_146 (by decide) ?_
  refine r_addN (r := i + 2) hx hb dL_law_147 rfl ?_
  refine r_sld hx hb hX hbl hL hS (i := i + 2) (by omega) e2 dL_law_148 ?_
  refine lv_aload_n hx hb dL_law_149 rfl (lv_at hl 3 rfl) ?_
  refine k_L (vx_runSW (As := [.ref (ad 0), .int b, .int w, .ref (ad 46)]) (rest := []) hF (w_add_0 l D cI cA ad n x b w cL o hbk hnm hn) (vx_cwSW 4 hts gL_law_L_add rfl rfl rfl (by decide +kernel) ⟨(Nat.le_of_ble_eq_true rfl), (Nat.le_of_ble_eq_true rfl)⟩) (lw_pre hK hDo hT hXF hC hPo hS) rfl rfl hl.1 rfl (lv_room (Nat.le_of_ble_eq_true rfl)) dL_law_150 hroom) hAo (fun H1 hP1 hz hk9 => ?_)
  have hPm := lw_keep (fun j hj ⟨k, hk, eq⟩ => hdis k j hk hj eq.symm) hPm hk9
  have hS := lw_S hAo hS hz hk9
  refine lv_istore (lv' := [(5, .int (nI 0)), (0, .ref b0), (1, .ref (ad 0)), (2, .ref (am 0)), (3, .ref (ad 46)), (4, .int (nI i))]) hx hb dL_law_153 hl (by decide) rfl (fun ls hl => ?_)
  refine lv_aload_n hx hb dL_law_155 rfl (lv_at hl 3 rfl) ?_
  refine lv_aload_n hx hb dL_law_156 rfl (lv_at hl 1 rfl) ?_
  refine lv_iload hx hb dL_law_157 (lv_at hl 5 rfl) ?_
  refine lv_iconst (v := nI 1) hx hb dL_law_159 (by decide) ?_
  refine r_addN (r := i + 1) hx hb dL_law_160 rfl ?_
  refine r_sld hx hb hX hbl hL hS (i := i + 1) (by omega) e1 dL_law_161 ?_
  refine lv_aload_n hx hb dL_law_162 rfl (lv_at hl 1 rfl) ?_
  refine lv_iload hx hb dL_law_163 (lv_at hl 5 rfl) ?_
  refine lv_iconst (v := nI 2) hx hb dL_law_165 (by decide) ?_
  refine r_addN (r := i + 2) hx hb dL_law_166 rfl ?_
  refine r_sld hx hb hX hbl hL hS (i := i + 2) (by omega) e2 dL_law_167 ?_
  refine k_M (va_runV (As := [.int b, .int w]) (rest := []) hF (m_add_0 l D cI cA am th n y b w hbk hnm hn) (cwV 2 hts gL_law_X4_add rfl rfl rfl (by decide +kernel) ⟨(Nat.le_of_ble_eq_true rfl), (Nat.le_of_ble_eq_true rfl)⟩) (k_pre hPm hKm hDm hT (k := 0) (by decide) mF_0 rfl) rfl rfl hl.1 rfl (lv_room (Nat.le_of_ble_eq_true rfl)) dL_law_168 ⟨hroom.1, hroom.2⟩) hAm (fun H2 hPm hz hk9 => ?_)
  have hPo := lw_keep (fun j hj ⟨k, hk, eq⟩ => hdis j k hj hk eq) hP1 hk9
  have hS := lw_S hAm hS hz hk9
  refine r_topi (show _ = nI n from rfl) ?_
  refine lv_istore (lv' := [(6, .int (nI n)), (5, .int (nI 0)), (0, .ref b0), (1, .ref (ad 0)), (2, .ref (am 0)), (3, .ref (ad 46)), (4, .int (nI i))]) hx hb dL_law_171 hl (by decide) rfl (fun ls hl => ?_)
  refine lv_aload_n hx hb dL_law_173 rfl (lv_at hl 4 rfl) ?_
  refine k_Ri (va_runV (As := []) (rest := []) hF (c_X4_thrown l D cI cA am _ _ _) (cwV 0 hts gL_law_X4_thrown rfl rfl rfl (by decide +kernel) ⟨(Nat.le_of_ble_eq_true rfl), (Nat.le_of_ble_eq_true rfl)⟩) (k_pre hPm hKm hDm hT (k := 0) (by decide) mF_0 rfl) rfl rfl hl.1 rfl (lv_room (Nat.le_of_ble_eq_true rfl)) dL_law_174 ⟨hroom.1, hroom.2⟩) ?_
  refine lv_iload hx hb dL_law_177 (lv_at hl 1 rfl) ?_
  refine r_ceqN (tgt := 184) hx hb (by decide) (by decide) dL_law_179 (by decide) (fun _ => ?_) (fun h => absurd rfl h)
  refine lv_iload hx hb dL_law_184 (lv_at hl 1 rfl) ?_
  refine r_ifneN (a := 0) (tgt := 201) hx hb (by decide) dL_law_186 (by decide) (fun h => absurd rfl h) (fun _ => ?_)
  refine lv_aload_n hx hb dL_law_189 rfl (lv_at hl 5 rfl) ?_
  refine lv_iconst (v := nI 0) hx hb dL_law_190 (by decide) ?_
  refine va_lald hx hb hK hPo 46 2 (wl_at (show 46 < 47 by decide)) rfl (vp_in_nI (by decide) (by decide)) dL_law_191 ?_
  rw [oW_0 (w := (nI n).toInt64)]
  refine lv_iload hx hb dL_law_192 (lv_at hl 0 rfl) ?_
  refine lv_i2l hx hb dL_law_194 rfl ?_
  refine r_lcmpE hx hb dL_law_195 ?_
  refine r_ifeqN (a := 0) (tgt := 201) hx hb (by decide) dL_law_196 (by decide) (fun _ => ?_) (fun h => absurd rfl h)
  refine lv_goto (tgt := 1441) hx hb dL_law_201 (by decide) ?_
  exact kk _ _ _ _ _ _ _ _ (by omega) ⟨hPo, hPm, hS, Rel_add hR hn⟩ (lv_sub hl [2, 3, 4, 5, 6] rfl)
set_option maxHeartbeats 4000000 in
set_option maxRecDepth 100000 in
theorem z_add_Ta {p : Program} {l : Launch} {e : Env} {s : State} {m : MethodId} {below : List Frame} {meth : Method} {c9 : Code} {H : Heap} {cells slots : Nat} {Q : State → Prop} {ls : Array Slot} {D : va_G} {b0 L : Nat} {xs : Nat → Int32} {cI cA cL : ClassId} {ad am : Nat → Nat} {K n : Nat} {x y : Nat → Nat → Int32} {o : Nat → Int64} {th : Int32} {i : Nat} (C0 : lwC p l s m c9 b0 L xs D cI cA cL ad am) (S0 : lwS s D cI cA cL ad am K n x y o th H) (hK30 : K < 2 ^ 30) (hroom : cells + 1 ≤ room_1.cells ∧ slots + 6 ≤ room_1.slots) (hi : i + 4 < L) (hl : lv_has ls 7 [(0, .ref b0), (1, .ref (ad 0)), (2, .ref (am 0)), (3, .ref (ad 46)), (4, .int (nI i))]) (b : Int32) (w : Int32) (hbk : bookB b = false) (e1 : xs (i + 1) = b) (e2 : xs (i + 2) = w) (kk : ∀ (K' n' : Nat) (x' y' : Nat → Nat → Int32) (o' : Nat → Int64) (th' : Int32) (H' : Heap) (ls' : Array Slot), K' ≤ K + 216 → lwS s D cI cA cL ad am K' n' x' y' o' th' H' → lv_has ls' 7 [(0, .ref b0), (1, .ref (ad 0)), (2, .ref (am 0)), (3, .ref (ad 46)), (4, .int (nI i))] → W p l e room_1 s m #[Value.ref b0] below meth c9 H' [] (cells + 1) (slots + 6) Q (F0 m 1441 ls' [])) : W p l e room_1 s m #[Value.ref b0] below meth c9 H [] cells slots Q (F0 m 136 ls []) := by
  obtain ⟨hx, hb, hF, hK, hDo, hDm, hdis, hT, hXF, hC, hlt, hX, hbl, hL⟩ := C0
  obtain ⟨hPo, hPm, hS, hR⟩ := S0
  have hn9 : n ≤ 24 := hR.n24
  have hn : n ≤ 24 := hn9
  have hts := hF.2.2.2.2
  have hKm := hK.sub (tys' := [(cI, .int), (cA, .array .int)]) [0, 1] rfl
  have hAo : ∀ q, wA ad 47 q → s.heap.size ≤ q := fun q ⟨k, hk, eq⟩ => by rw [eq]; exact hDo.2 k hk
  have hAm : ∀ q, wA am 8 q → s.heap.size ≤ q := fun q ⟨k, hk, eq⟩ => by rw [eq]; exact hDm.2 k hk
  refine lv_aload_n hx hb dL_law_136 rfl (lv_at hl 1 rfl) ?_
  refine lv_aload_n hx hb dL_law_137 rfl (lv_at hl 0 rfl) ?_
  refine lv_iload hx hb dL_law_138 (lv_at hl 4 rfl) ?_
  refine lv_iconst (v := nI 1) hx hb dL_law_140 (by decide) ?_
  refine r_addN (r := i + 1) hx hb dL_law_141 rfl ?_
  refine r_sld hx hb hX hbl hL hS (i := i + 1) (by omega) e1 dL_law_142 ?_
  refine lv_aload_n hx hb dL_law_143 rfl (lv_at hl 0 rfl) ?_
  refine lv_iload hx hb dL_law_144 (lv_at hl 4 rfl) ?_
  refine lv_iconst (v := nI 2) hx hb dL_law_146 (by decide) ?_
  refine r_addN (r := i + 2) hx hb dL_law_147 rfl ?_
  refine r_sld hx hb hX hbl hL hS (i := i + 2) (by omega) e2 dL_law_148 ?_
  refine lv_aload_n hx hb dL_law_149 rfl (lv_at hl 3 rfl) ?_
  refine k_L (vx_runSW (As := [.ref (ad 0), .int b, .int w, .ref (ad 46)]) (rest := []) hF (w_add_Ta l D cI cA ad n x b w cL o hlt hbk) (vx_cwSW 4 hts gL_law_L_add rfl rfl rfl (by decide +kernel) ⟨(Nat.le_of_ble_eq_true rfl), (Nat.le_of_ble_eq_true rfl)⟩) (lw_pre hK hDo hT hXF hC hPo hS) rfl rfl hl.1 rfl (lv_room (Nat.le_of_ble_eq_true rfl)) dL_law_150 hroom) hAo (fun H1 hP1 hz hk9 => ?_)
  have hPm := lw_keep (fun j hj ⟨k, hk, eq⟩ => hdis k j hk hj eq.symm) hPm hk9
  have hS := lw_S hAo hS hz hk9
  refine lv_istore (lv' := [(5, .int (nI 1)), (0, .ref b0), (1, .ref (ad 0)), (2, .ref (am 0)), (3, .ref (ad 46)), (4, .int (nI i))]) hx hb dL_law_153 hl (by decide) rfl (fun ls hl => ?_)
  refine lv_aload_n hx hb dL_law_155 rfl (lv_at hl 3 rfl) ?_
  refine lv_aload_n hx hb dL_law_156 rfl (lv_at hl 1 rfl) ?_
  refine lv_iload hx hb dL_law_157 (lv_at hl 5 rfl) ?_
  refine lv_iconst (v := nI 1) hx hb dL_law_159 (by decide) ?_
  refine r_addN (r := i + 1) hx hb dL_law_160 rfl ?_
  refine r_sld hx hb hX hbl hL hS (i := i + 1) (by omega) e1 dL_law_161 ?_
  refine lv_aload_n hx hb dL_law_162 rfl (lv_at hl 1 rfl) ?_
  refine lv_iload hx hb dL_law_163 (lv_at hl 5 rfl) ?_
  refine lv_iconst (v := nI 2) hx hb dL_law_165 (by decide) ?_
  refine r_addN (r := i + 2) hx hb dL_law_166 rfl ?_
  refine r_sld hx hb hX hbl hL hS (i := i + 2) (by omega) e2 dL_law_167 ?_
  refine k_M (va_runV (As := [.int b, .int w]) (rest := []) hF (m_add_1 l D cI cA am th n y b w hbk) (cwV 2 hts gL_law_X4_add rfl rfl rfl (by decide +kernel) ⟨(Nat.le_of_ble_eq_true rfl), (Nat.le_of_ble_eq_true rfl)⟩) (k_pre hPm hKm hDm hT (k := 0) (by decide) mF_0 rfl) rfl rfl hl.1 rfl (lv_room (Nat.le_of_ble_eq_true rfl)) dL_law_168 ⟨hroom.1, hroom.2⟩) hAm (fun H2 hPm hz hk9 => ?_)
  have hPo := lw_keep (fun j hj ⟨k, hk, eq⟩ => hdis j k hj hk eq) hP1 hk9
  have hS := lw_S hAm hS hz hk9
  refine lv_istore (lv' := [(6, .int (nI 0)), (5, .int (nI 1)), (0, .ref b0), (1, .ref (ad 0)), (2, .ref (am 0)), (3, .ref (ad 46)), (4, .int (nI i))]) hx hb dL_law_171 hl (by decide) rfl (fun ls hl => ?_)
  refine lv_aload_n hx hb dL_law_173 rfl (lv_at hl 4 rfl) ?_
  refine k_Ri (va_runV (As := []) (rest := []) hF (c_X4_thrown l D cI cA am _ _ _) (cwV 0 hts gL_law_X4_thrown rfl rfl rfl (by decide +kernel) ⟨(Nat.le_of_ble_eq_true rfl), (Nat.le_of_ble_eq_true rfl)⟩) (k_pre hPm hKm hDm hT (k := 0) (by decide) mF_0 rfl) rfl rfl hl.1 rfl (lv_room (Nat.le_of_ble_eq_true rfl)) dL_law_174 ⟨hroom.1, hroom.2⟩) ?_
  refine lv_iload hx hb dL_law_177 (lv_at hl 1 rfl) ?_
  refine r_ceqN (tgt := 184) hx hb (by decide) (by decide) dL_law_179 (by decide) (fun _ => ?_) (fun h => absurd rfl h)
  refine lv_iload hx hb dL_law_184 (lv_at hl 1 rfl) ?_
  refine r_ifneN (a := 1) (tgt := 201) hx hb (by decide) dL_law_186 (by decide) (fun _ => ?_) (fun h => absurd h (by decide))
  refine lv_goto (tgt := 1441) hx hb dL_law_201 (by decide) ?_
  exact kk _ _ _ _ _ _ _ _ (by omega) ⟨hPo, hPm, hS, hR⟩ (lv_sub hl [2, 3, 4, 5, 6] rfl)
set_option maxHeartbeats 4000000 in
set_option maxRecDepth 100000 in
theorem z_add_Tb {p : Program} {l : Launch} {e : Env} {s : State} {m : MethodId} {below : List Frame} {meth : Method} {c9 : Code} {H : Heap} {cells slots : Nat} {Q : State → Prop} {ls : Array Slot} {D : va_G} {b0 L : Nat} {xs : Nat → Int32} {cI cA cL : ClassId} {ad am : Nat → Nat} {K n : Nat} {x y : Nat → Nat → Int32} {o : Nat → Int64} {th : Int32} {i : Nat} (C0 : lwC p l s m c9 b0 L xs D cI cA cL ad am) (S0 : lwS s D cI cA cL ad am K n x y o th H) (hK30 : K < 2 ^ 30) (hroom : cells + 1 ≤ room_1.cells ∧ slots + 6 ≤ room_1.slots) (hi : i + 4 < L) (hl : lv_has ls 7 [(0, .ref b0), (1, .ref (ad 0)), (2, .ref (am 0)), (3, .ref (ad 46)), (4, .int (nI i))]) (b : Int32) (w : Int32) (hbk : bookB b = true) (hnm : nameB w = false) (e1 : xs (i + 1) = b) (e2 : xs (i + 2) = w) (kk : ∀ (K' n' : Nat) (x' y' : Nat → Nat → Int32) (o' : Nat → Int64) (th' : Int32) (H' : Heap) (ls' : Array Slot), K' ≤ K + 216 → lwS s D cI cA cL ad am K' n' x' y' o' th' H' → lv_has ls' 7 [(0, .ref b0), (1, .ref (ad 0)), (2, .ref (am 0)), (3, .ref (ad 46)), (4, .int (nI i))] → W p l e room_1 s m #[Value.ref b0] below meth c9 H' [] (cells + 1) (slots + 6) Q (F0 m 1441 ls' [])) : W p l e room_1 s m #[Value.ref b0] below meth c9 H [] cells slots Q (F0 m 136 ls []) := by
  obtain ⟨hx, hb, hF, hK, hDo, hDm, hdis, hT, hXF, hC, hlt, hX, hbl, hL⟩ := C0
  obtain ⟨hPo, hPm, hS, hR⟩ := S0
  have hn9 : n ≤ 24 := hR.n24
  have hn : n ≤ 24 := hn9
  have hts := hF.2.2.2.2
  have hKm := hK.sub (tys' := [(cI, .int), (cA, .array .int)]) [0, 1] rfl
  have hAo : ∀ q, wA ad 47 q → s.heap.size ≤ q := fun q ⟨k, hk, eq⟩ => by rw [eq]; exact hDo.2 k hk
  have hAm : ∀ q, wA am 8 q → s.heap.size ≤ q := fun q ⟨k, hk, eq⟩ => by rw [eq]; exact hDm.2 k hk
  refine lv_aload_n hx hb dL_law_136 rfl (lv_at hl 1 rfl) ?_
  refine lv_aload_n hx hb dL_law_137 rfl (lv_at hl 0 rfl) ?_
  refine lv_iload hx hb dL_law_138 (lv_at hl 4 rfl) ?_
  refine lv_iconst (v := nI 1) hx hb dL_law_140 (by decide) ?_
  refine r_addN (r := i + 1) hx hb dL_law_141 rfl ?_
  refine r_sld hx hb hX hbl hL hS (i := i + 1) (by omega) e1 dL_law_142 ?_
  refine lv_aload_n hx hb dL_law_143 rfl (lv_at hl 0 rfl) ?_
  refine lv_iload hx hb dL_law_144 (lv_at hl 4 rfl) ?_
  refine lv_iconst (v := nI 2) hx hb dL_law_146 (by decide) ?_
  refine r_addN (r := i + 2) hx hb dL_law_147 rfl ?_
  refine r_sld hx hb hX hbl hL hS (i := i + 2) (by omega) e2 dL_law_148 ?_
  refine lv_aload_n hx hb dL_law_149 rfl (lv_at hl 3 rfl) ?_
  refine k_L (vx_runSW (As := [.ref (ad 0), .int b, .int w, .ref (ad 46)]) (rest := []) hF (w_add_Tb l D cI cA ad n x b w cL o hlt hbk hnm) (vx_cwSW 4 hts gL_law_L_add rfl rfl rfl (by decide +kernel) ⟨(Nat.le_of_ble_eq_true rfl), (Nat.le_of_ble_eq_true rfl)⟩) (lw_pre hK hDo hT hXF hC hPo hS) rfl rfl hl.1 rfl (lv_room (Nat.le_of_ble_eq_true rfl)) dL_law_150 hroom) hAo (fun H1 hP1 hz hk9 => ?_)
  have hPm := lw_keep (fun j hj ⟨k, hk, eq⟩ => hdis k j hk hj eq.symm) hPm hk9
  have hS := lw_S hAo hS hz hk9
  refine lv_istore (lv' := [(5, .int (nI 2)), (0, .ref b0), (1, .ref (ad 0)), (2, .ref (am 0)), (3, .ref (ad 46)), (4, .int (nI i))]) hx hb dL_law_153 hl (by decide) rfl (fun ls hl => ?_)
  refine lv_aload_n hx hb dL_law_155 rfl (lv_at hl 3 rfl) ?_
  refine lv_aload_n hx hb dL_law_156 rfl (lv_at hl 1 rfl) ?_
  refine lv_iload hx hb dL_law_157 (lv_at hl 5 rfl) ?_
  refine lv_iconst (v := nI 1) hx hb dL_law_159 (by decide) ?_
  refine r_addN (r := i + 1) hx hb dL_law_160 rfl ?_
  refine r_sld hx hb hX hbl hL hS (i := i + 1) (by omega) e1 dL_law_161 ?_
  refine lv_aload_n hx hb dL_law_162 rfl (lv_at hl 1 rfl) ?_
  refine lv_iload hx hb dL_law_163 (lv_at hl 5 rfl) ?_
  refine lv_iconst (v := nI 2) hx hb dL_law_165 (by decide) ?_
  refine r_addN (r := i + 2) hx hb dL_law_166 rfl ?_
  refine r_sld hx hb hX hbl hL hS (i := i + 2) (by omega) e2 dL_law_167 ?_
  refine k_M (va_runV (As := [.int b, .int w]) (rest := []) hF (m_add_2 l D cI cA am th n y b w hbk hnm) (cwV 2 hts gL_law_X4_add rfl rfl rfl (by decide +kernel) ⟨(Nat.le_of_ble_eq_true rfl), (Nat.le_of_ble_eq_true rfl)⟩) (k_pre hPm hKm hDm hT (k := 0) (by decide) mF_0 rfl) rfl rfl hl.1 rfl (lv_room (Nat.le_of_ble_eq_true rfl)) dL_law_168 ⟨hroom.1, hroom.2⟩) hAm (fun H2 hPm hz hk9 => ?_)
  have hPo := lw_keep (fun j hj ⟨k, hk, eq⟩ => hdis j k hj hk eq) hP1 hk9
  have hS := lw_S hAm hS hz hk9
  refine lv_istore (lv' := [(6, .int (nI 0)), (5, .int (nI 2)), (0, .ref b0), (1, .ref (ad 0)), (2, .ref (am 0)), (3, .ref (ad 46)), (4, .int (nI i))]) hx hb dL_law_171 hl (by decide) rfl (fun ls hl => ?_)
  refine lv_aload_n hx hb dL_law_173 rfl (lv_at hl 4 rfl) ?_
  refine k_Ri (va_runV (As := []) (rest := []) hF (c_X4_thrown l D cI cA am _ _ _) (cwV 0 hts gL_law_X4_thrown rfl rfl rfl (by decide +kernel) ⟨(Nat.le_of_ble_eq_true rfl), (Nat.le_of_ble_eq_true rfl)⟩) (k_pre hPm hKm hDm hT (k := 0) (by decide) mF_0 rfl) rfl rfl hl.1 rfl (lv_room (Nat.le_of_ble_eq_true rfl)) dL_law_174 ⟨hroom.1, hroom.2⟩) ?_
  refine lv_iload hx hb dL_law_177 (lv_at hl 1 rfl) ?_
  refine r_ceqN (tgt := 184) hx hb (by decide) (by decide) dL_law_179 (by decide) (fun _ => ?_) (fun h => absurd rfl h)
  refine lv_iload hx hb dL_law_184 (lv_at hl 1 rfl) ?_
  refine r_ifneN (a := 2) (tgt := 201) hx hb (by decide) dL_law_186 (by decide) (fun _ => ?_) (fun h => absurd h (by decide))
  refine lv_goto (tgt := 1441) hx hb dL_law_201 (by decide) ?_
  exact kk _ _ _ _ _ _ _ _ (by omega) ⟨hPo, hPm, hS, hR⟩ (lv_sub hl [2, 3, 4, 5, 6] rfl)
set_option maxHeartbeats 4000000 in
set_option maxRecDepth 100000 in
theorem z_add_Tc {p : Program} {l : Launch} {e : Env} {s : State} {m : MethodId} {below : List Frame} {meth : Method} {c9 : Code} {H : Heap} {cells slots : Nat} {Q : State → Prop} {ls : Array Slot} {D : va_G} {b0 L : Nat} {xs : Nat → Int32} {cI cA cL : ClassId} {ad am : Nat → Nat} {K n : Nat} {x y : Nat → Nat → Int32} {o : Nat → Int64} {th : Int32} {i : Nat} (C0 : lwC p l s m c9 b0 L xs D cI cA cL ad am) (S0 : lwS s D cI cA cL ad am K n x y o th H) (hK30 : K < 2 ^ 30) (hroom : cells + 1 ≤ room_1.cells ∧ slots + 6 ≤ room_1.slots) (hi : i + 4 < L) (hl : lv_has ls 7 [(0, .ref b0), (1, .ref (ad 0)), (2, .ref (am 0)), (3, .ref (ad 46)), (4, .int (nI i))]) (b : Int32) (w : Int32) (hbk : bookB b = true) (hnm : nameB w = true) (hn : n = 24) (e1 : xs (i + 1) = b) (e2 : xs (i + 2) = w) (kk : ∀ (K' n' : Nat) (x' y' : Nat → Nat → Int32) (o' : Nat → Int64) (th' : Int32) (H' : Heap) (ls' : Array Slot), K' ≤ K + 216 → lwS s D cI cA cL ad am K' n' x' y' o' th' H' → lv_has ls' 7 [(0, .ref b0), (1, .ref (ad 0)), (2, .ref (am 0)), (3, .ref (ad 46)), (4, .int (nI i))] → W p l e room_1 s m #[Value.ref b0] below meth c9 H' [] (cells + 1) (slots + 6) Q (F0 m 1441 ls' [])) : W p l e room_1 s m #[Value.ref b0] below meth c9 H [] cells slots Q (F0 m 136 ls []) := by
  obtain ⟨hx, hb, hF, hK, hDo, hDm, hdis, hT, hXF, hC, hlt, hX, hbl, hL⟩ := C0
  obtain ⟨hPo, hPm, hS, hR⟩ := S0
  have hn9 : n ≤ 24 := hR.n24
  have hts := hF.2.2.2.2
  have hKm := hK.sub (tys' := [(cI, .int), (cA, .array .int)]) [0, 1] rfl
  have hAo : ∀ q, wA ad 47 q → s.heap.size ≤ q := fun q ⟨k, hk, eq⟩ => by rw [eq]; exact hDo.2 k hk
  have hAm : ∀ q, wA am 8 q → s.heap.size ≤ q := fun q ⟨k, hk, eq⟩ => by rw [eq]; exact hDm.2 k hk
  refine lv_aload_n hx hb dL_law_136 rfl (lv_at hl 1 rfl) ?_
  refine lv_aload_n hx hb dL_law_137 rfl (lv_at hl 0 rfl) ?_
  refine lv_iload hx hb dL_law_138 (lv_at hl 4 rfl) ?_
  refine lv_iconst (v := nI 1) hx hb dL_law_140 (by decide) ?_
  refine r_addN (r := i + 1) hx hb dL_law_141 rfl ?_
  refine r_sld hx hb hX hbl hL hS (i := i + 1) (by omega) e1 dL_law_142 ?_
  refine lv_aload_n hx hb dL_law_143 rfl (lv_at hl 0 rfl) ?_
  refine lv_iload hx hb dL_law_144 (lv_at hl 4 rfl) ?_
  refine lv_iconst (v := nI 2) hx hb dL_law_146 (by decide) ?_
  refine r_addN (r := i + 2) hx hb dL_law_147 rfl ?_
  refine r_sld hx hb hX hbl hL hS (i := i + 2) (by omega) e2 dL_law_148 ?_
  refine lv_aload_n hx hb dL_law_149 rfl (lv_at hl 3 rfl) ?_
  refine k_L (vx_runSW (As := [.ref (ad 0), .int b, .int w, .ref (ad 46)]) (rest := []) hF (w_add_Tc l D cI cA ad n x b w cL o hlt hbk hnm hn) (vx_cwSW 4 hts gL_law_L_add rfl rfl rfl (by decide +kernel) ⟨(Nat.le_of_ble_eq_true rfl), (Nat.le_of_ble_eq_true rfl)⟩) (lw_pre hK hDo hT hXF hC hPo hS) rfl rfl hl.1 rfl (lv_room (Nat.le_of_ble_eq_true rfl)) dL_law_150 hroom) hAo (fun H1 hP1 hz hk9 => ?_)
  have hPm := lw_keep (fun j hj ⟨k, hk, eq⟩ => hdis k j hk hj eq.symm) hPm hk9
  have hS := lw_S hAo hS hz hk9
  refine lv_istore (lv' := [(5, .int (nI 3)), (0, .ref b0), (1, .ref (ad 0)), (2, .ref (am 0)), (3, .ref (ad 46)), (4, .int (nI i))]) hx hb dL_law_153 hl (by decide) rfl (fun ls hl => ?_)
  refine lv_aload_n hx hb dL_law_155 rfl (lv_at hl 3 rfl) ?_
  refine lv_aload_n hx hb dL_law_156 rfl (lv_at hl 1 rfl) ?_
  refine lv_iload hx hb dL_law_157 (lv_at hl 5 rfl) ?_
  refine lv_iconst (v := nI 1) hx hb dL_law_159 (by decide) ?_
  refine r_addN (r := i + 1) hx hb dL_law_160 rfl ?_
  refine r_sld hx hb hX hbl hL hS (i := i + 1) (by omega) e1 dL_law_161 ?_
  refine lv_aload_n hx hb dL_law_162 rfl (lv_at hl 1 rfl) ?_
  refine lv_iload hx hb dL_law_163 (lv_at hl 5 rfl) ?_
  refine lv_iconst (v := nI 2) hx hb dL_law_165 (by decide) ?_
  refine r_addN (r := i + 2) hx hb dL_law_166 rfl ?_
  refine r_sld hx hb hX hbl hL hS (i := i + 2) (by omega) e2 dL_law_167 ?_
  refine k_M (va_runV (As := [.int b, .int w]) (rest := []) hF (m_add_3 l D cI cA am th n y b w hbk hnm hn) (cwV 2 hts gL_law_X4_add rfl rfl rfl (by decide +kernel) ⟨(Nat.le_of_ble_eq_true rfl), (Nat.le_of_ble_eq_true rfl)⟩) (k_pre hPm hKm hDm hT (k := 0) (by decide) mF_0 rfl) rfl rfl hl.1 rfl (lv_room (Nat.le_of_ble_eq_true rfl)) dL_law_168 ⟨hroom.1, hroom.2⟩) hAm (fun H2 hPm hz hk9 => ?_)
  have hPo := lw_keep (fun j hj ⟨k, hk, eq⟩ => hdis j k hj hk eq) hP1 hk9
  have hS := lw_S hAm hS hz hk9
  refine lv_istore (lv' := [(6, .int (nI 0)), (5, .int (nI 3)), (0, .ref b0), (1, .ref (ad 0)), (2, .ref (am 0)), (3, .ref (ad 46)), (4, .int (nI i))]) hx hb dL_law_171 hl (by decide) rfl (fun ls hl => ?_)
  refine lv_aload_n hx hb dL_law_173 rfl (lv_at hl 4 rfl) ?_
  refine k_Ri (va_runV (As := []) (rest := []) hF (c_X4_thrown l D cI cA am _ _ _) (cwV 0 hts gL_law_X4_thrown rfl rfl rfl (by decide +kernel) ⟨(Nat.le_of_ble_eq_true rfl), (Nat.le_of_ble_eq_true rfl)⟩) (k_pre hPm hKm hDm hT (k := 0) (by decide) mF_0 rfl) rfl rfl hl.1 rfl (lv_room (Nat.le_of_ble_eq_true rfl)) dL_law_174 ⟨hroom.1, hroom.2⟩) ?_
  refine lv_iload hx hb dL_law_177 (lv_at hl 1 rfl) ?_
  refine r_ceqN (tgt := 184) hx hb (by decide) (by decide) dL_law_179 (by decide) (fun _ => ?_) (fun h => absurd rfl h)
  refine lv_iload hx hb dL_law_184 (lv_at hl 1 rfl) ?_
  refine r_ifneN (a := 3) (tgt := 201) hx hb (by decide) dL_law_186 (by decide) (fun _ => ?_) (fun h => absurd h (by decide))
  refine lv_goto (tgt := 1441) hx hb dL_law_201 (by decide) ?_
  exact kk _ _ _ _ _ _ _ _ (by omega) ⟨hPo, hPm, hS, hR⟩ (lv_sub hl [2, 3, 4, 5, 6] rfl)
set_option maxHeartbeats 4000000 in
set_option maxRecDepth 100000 in
theorem z_turn_0 {p : Program} {l : Launch} {e : Env} {s : State} {m : MethodId} {below : List Frame} {meth : Method} {c9 : Code} {H : Heap} {cells slots : Nat} {Q : State → Prop} {ls : Array Slot} {D : va_G} {b0 L : Nat} {xs : Nat → Int32} {cI cA cL : ClassId} {ad am : Nat → Nat} {K n : Nat} {x y : Nat → Nat → Int32} {o : Nat → Int64} {th : Int32} {i : Nat} (C0 : lwC p l s m c9 b0 L xs D cI cA cL ad am) (S0 : lwS s D cI cA cL ad am K n x y o th H) (hK30 : K < 2 ^ 30) (hroom : cells + 1 ≤ room_1.cells ∧ slots + 6 ≤ room_1.slots) (hi : i + 4 < L) (hl : lv_has ls 7 [(0, .ref b0), (1, .ref (ad 0)), (2, .ref (am 0)), (3, .ref (ad 46)), (4, .int (nI i))]) (c : Nat) (v : Nat) (k : Nat) (w : Nat) (hc : c < n) (hv : v < 2) (hk : k < 2) (hw : w < 30) (e1 : xs (i + 1) = nI c) (e2 : xs (i + 2) = nI v) (e3 : xs (i + 3) = nI k) (e4 : xs (i + 4) = nI w) (kk : ∀ (K' n' : Nat) (x' y' : Nat → Nat → Int32) (o' : Nat → Int64) (th' : Int32) (H' : Heap) (ls' : Array Slot), K' ≤ K + 216 → lwS s D cI cA cL ad am K' n' x' y' o' th' H' → lv_has ls' 7 [(0, .ref b0), (1, .ref (ad 0)), (2, .ref (am 0)), (3, .ref (ad 46)), (4, .int (nI i))] → W p l e room_1 s m #[Value.ref b0] below meth c9 H' [] (cells + 1) (slots + 6) Q (F0 m 1441 ls' [])) : W p l e room_1 s m #[Value.ref b0] below meth c9 H [] cells slots Q (F0 m 204 ls []) := by
  obtain ⟨hx, hb, hF, hK, hDo, hDm, hdis, hT, hXF, hC, hlt, hX, hbl, hL⟩ := C0
  obtain ⟨hPo, hPm, hS, hR⟩ := S0
  have hn9 : n ≤ 24 := hR.n24
  have hn : n ≤ 24 := hn9
  have hts := hF.2.2.2.2
  have hKm := hK.sub (tys' := [(cI, .int), (cA, .array .int)]) [0, 1] rfl
  have hAo : ∀ q, wA ad 47 q → s.heap.size ≤ q := fun q ⟨k, hk, eq⟩ => by rw [eq]; exact hDo.2 k hk
  have hAm : ∀ q, wA am 8 q → s.heap.size ≤ q := fun q ⟨k, hk, eq⟩ => by rw [eq]; exact hDm.2 k hk
  refine lv_aload_n hx hb dL_law_204 rfl (lv_at hl 1 rfl) ?_
  refine lv_aload_n hx hb dL_law_205 rfl (lv_at hl 0 rfl) ?_
  refine lv_iload hx hb dL_law_206 (lv_at hl 4 rfl) ?_
  refine lv_iconst (v := nI 1) hx hb dL_law_208 (by decide) ?_
  refine r_addN (r := i + 1) hx hb dL_law_209 rfl ?_
  refine r_sld hx hb hX hbl hL hS (i := i + 1) (by omega) e1 dL_law_210 ?_
  refine lv_aload_n hx hb dL_law_211 rfl (lv_at hl 0 rfl) ?_
  refine lv_iload hx hb dL_law_212 (lv_at hl 4 rfl) ?_
  refine lv_iconst (v := nI 2) hx hb dL_law_214 (by decide) ?_
  refine r_addN (r := i + 2) hx hb dL_law_215 rfl ?_
  refine r_sld hx hb hX hbl hL hS (i := i + 2) (by omega) e2 dL_law_216 ?_
  refine lv_aload_n hx hb dL_law_217 rfl (lv_at hl 0 rfl) ?_
  refine lv_iload hx hb dL_law_218 (lv_at hl 4 rfl) ?_
  refine lv_iconst (v := nI 3) hx hb dL_law_220 (by decide) ?_
  refine r_addN (r := i + 3) hx hb dL_law_221 rfl ?_
  refine r_sld hx hb hX hbl hL hS (i := i + 3) (by omega) e3 dL_law_222 ?_
  refine lv_aload_n hx hb dL_law_223 rfl (lv_at hl 0 rfl) ?_
  refine lv_iload hx hb dL_law_224 (lv_at hl 4 rfl) ?_
  refine lv_iconst (v := nI 4) hx hb dL_law_226 (by decide) ?_
  refine r_addN (r := i + 4) hx hb dL_law_227 rfl ?_
  refine r_sld hx hb hX hbl hL hS (i := i + 4) (by omega) e4 dL_law_228 ?_
  refine lv_aload_n hx hb dL_law_229 rfl (lv_at hl 3 rfl) ?_
  refine k_L (vx_runSW (As := [.ref (ad 0), .int (nI c), .int (nI v), .int (nI k), .int (nI w), .ref (ad 46)]) (rest := []) hF (w_turn_0 l D cI cA ad n x c v k w cL o hc hn hv hk hw) (vx_cwSW 6 hts gL_law_L_turn rfl rfl rfl (by decide +kernel) ⟨(Nat.le_of_ble_eq_true rfl), (Nat.le_of_ble_eq_true rfl)⟩) (lw_pre hK hDo hT hXF hC hPo hS) rfl rfl hl.1 rfl (lv_room (Nat.le_of_ble_eq_true rfl)) dL_law_230 hroom) hAo (fun H1 hP1 hz hk9 => ?_)
  have hPm := lw_keep (fun j hj ⟨k, hk, eq⟩ => hdis k j hk hj eq.symm) hPm hk9
  have hS := lw_S hAo hS hz hk9
  refine lv_istore (lv' := [(5, .int (nI 0)), (0, .ref b0), (1, .ref (ad 0)), (2, .ref (am 0)), (3, .ref (ad 46)), (4, .int (nI i))]) hx hb dL_law_233 hl (by decide) rfl (fun ls hl => ?_)
  refine lv_aload_n hx hb dL_law_235 rfl (lv_at hl 3 rfl) ?_
  refine lv_aload_n hx hb dL_law_236 rfl (lv_at hl 1 rfl) ?_
  refine lv_iload hx hb dL_law_237 (lv_at hl 5 rfl) ?_
  refine lv_iconst (v := nI 1) hx hb dL_law_239 (by decide) ?_
  refine r_addN (r := i + 1) hx hb dL_law_240 rfl ?_
  refine r_sld hx hb hX hbl hL hS (i := i + 1) (by omega) e1 dL_law_241 ?_
  refine lv_aload_n hx hb dL_law_242 rfl (lv_at hl 1 rfl) ?_
  refine lv_iload hx hb dL_law_243 (lv_at hl 5 rfl) ?_
  refine lv_iconst (v := nI 2) hx hb dL_law_245 (by decide) ?_
  refine r_addN (r := i + 2) hx hb dL_law_246 rfl ?_
  refine r_sld hx hb hX hbl hL hS (i := i + 2) (by omega) e2 dL_law_247 ?_
  refine lv_aload_n hx hb dL_law_248 rfl (lv_at hl 1 rfl) ?_
  refine lv_iload hx hb dL_law_249 (lv_at hl 5 rfl) ?_
  refine lv_iconst (v := nI 3) hx hb dL_law_251 (by decide) ?_
  refine r_addN (r := i + 3) hx hb dL_law_252 rfl ?_
  refine r_sld hx hb hX hbl hL hS (i := i + 3) (by omega) e3 dL_law_253 ?_
  refine lv_aload_n hx hb dL_law_254 rfl (lv_at hl 1 rfl) ?_
  refine lv_iload hx hb dL_law_255 (lv_at hl 5 rfl) ?_
  refine lv_iconst (v := nI 4) hx hb dL_law_257 (by decide) ?_
  refine r_addN (r := i + 4) hx hb dL_law_258 rfl ?_
  refine r_sld hx hb hX hbl hL hS (i := i + 4) (by omega) e4 dL_law_259 ?_
  refine k_M (va_runV (As := [.int (nI c), .int (nI v), .int (nI k), .int (nI w)]) (rest := []) hF (m_turn_0 l D cI cA am th n y c v k w hc hn9 hv hk hw) (cwV 4 hts gL_law_X4_turn rfl rfl rfl (by decide +kernel) ⟨(Nat.le_of_ble_eq_true rfl), (Nat.le_of_ble_eq_true rfl)⟩) (k_pre hPm hKm hDm hT (k := 0) (by decide) mF_0 rfl) rfl rfl hl.1 rfl (lv_room (Nat.le_of_ble_eq_true rfl)) dL_law_260 ⟨hroom.1, hroom.2⟩) hAm (fun H2 hPm hz hk9 => ?_)
  have hPo := lw_keep (fun j hj ⟨k, hk, eq⟩ => hdis j k hj hk eq) hP1 hk9
  have hS := lw_S hAm hS hz hk9
  refine r_topi (show _ = bI (hasB (x (2 * v + k + 16) c ^^^ bit w) w) from congrArg bI ((Rel_turn hR hc hv hk hw).2.symm)) ?_
  refine lv_istore (lv' := [(6, .int (bI (hasB (x (2 * v + k + 16) c ^^^ bit w) w))), (5, .int (nI 0)), (0, .ref b0), (1, .ref (ad 0)), (2, .ref (am 0)), (3, .ref (ad 46)), (4, .int (nI i))]) hx hb dL_law_263 hl (by decide) rfl (fun ls hl => ?_)
  refine lv_aload_n hx hb dL_law_265 rfl (lv_at hl 4 rfl) ?_
  refine k_Ri (va_runV (As := []) (rest := []) hF (c_X4_thrown l D cI cA am _ _ _) (cwV 0 hts gL_law_X4_thrown rfl rfl rfl (by decide +kernel) ⟨(Nat.le_of_ble_eq_true rfl), (Nat.le_of_ble_eq_true rfl)⟩) (k_pre hPm hKm hDm hT (k := 0) (by decide) mF_0 rfl) rfl rfl hl.1 rfl (lv_room (Nat.le_of_ble_eq_true rfl)) dL_law_266 ⟨hroom.1, hroom.2⟩) ?_
  refine lv_iload hx hb dL_law_269 (lv_at hl 1 rfl) ?_
  refine r_ceqN (tgt := 276) hx hb (by decide) (by decide) dL_law_271 (by decide) (fun _ => ?_) (fun h => absurd rfl h)
  refine lv_iload hx hb dL_law_276 (lv_at hl 1 rfl) ?_
  refine r_ifneN (a := 0) (tgt := 300) hx hb (by decide) dL_law_278 (by decide) (fun h => absurd rfl h) (fun _ => ?_)
  refine lv_aload_n hx hb dL_law_281 rfl (lv_at hl 5 rfl) ?_
  refine lv_iconst (v := nI 0) hx hb dL_law_282 (by decide) ?_
  refine va_lald hx hb hK hPo 46 2 (wl_at (show 46 < 47 by decide)) rfl (vp_in_nI (by decide) (by decide)) dL_law_283 ?_
  rw [oW_0 (w := bL (hasB (x (2 * v + k + 16) c ^^^ bit w) w))]
  refine lv_iload hx hb dL_law_284 (lv_at hl 0 rfl) ?_
  have hfin : ∀ v9 : Int64, v9 = bL (hasB (x (2 * v + k + 16) c ^^^ bit w) w) → W p l e room_1 s m #[Value.ref b0] below meth c9 H2 [] (cells + 1) (slots + 6) Q (F0 m 294 ls [.long v9, .long (bL (hasB (x (2 * v + k + 16) c ^^^ bit w) w))]) := by
    intro v9 ev
    rw [ev]
    refine r_lcmpE hx hb dL_law_294 ?_
    refine r_ifeqN (a := 0) (tgt := 300) hx hb (by decide) dL_law_295 (by decide) (fun _ => ?_) (fun h => absurd rfl h)
    refine lv_goto (tgt := 1441) hx hb dL_law_300 (by decide) ?_
    exact kk _ _ _ _ _ _ _ _ (by omega) ⟨hPo, hPm, hS, (Rel_turn hR hc hv hk hw).1⟩ (lv_sub hl [2, 3, 4, 5, 6] rfl)
  refine r_ifeqB (tgt := 293) hx hb dL_law_286 (by decide) (fun hv9 => ?_) (fun hv9 => ?_)
  · refine lv_lconst (v := 0) hx hb dL_law_293 (by decide) ?_
    exact hfin 0 (by rw [hv9]; rfl)
  · refine lv_lconst (v := 1) hx hb dL_law_289 (by decide) ?_
    refine lv_goto (tgt := 294) hx hb dL_law_290 (by decide) ?_
    exact hfin 1 (by rw [hv9]; rfl)
set_option maxHeartbeats 4000000 in
set_option maxRecDepth 100000 in
theorem z_turn_Ta {p : Program} {l : Launch} {e : Env} {s : State} {m : MethodId} {below : List Frame} {meth : Method} {c9 : Code} {H : Heap} {cells slots : Nat} {Q : State → Prop} {ls : Array Slot} {D : va_G} {b0 L : Nat} {xs : Nat → Int32} {cI cA cL : ClassId} {ad am : Nat → Nat} {K n : Nat} {x y : Nat → Nat → Int32} {o : Nat → Int64} {th : Int32} {i : Nat} (C0 : lwC p l s m c9 b0 L xs D cI cA cL ad am) (S0 : lwS s D cI cA cL ad am K n x y o th H) (hK30 : K < 2 ^ 30) (hroom : cells + 1 ≤ room_1.cells ∧ slots + 6 ≤ room_1.slots) (hi : i + 4 < L) (hl : lv_has ls 7 [(0, .ref b0), (1, .ref (ad 0)), (2, .ref (am 0)), (3, .ref (ad 46)), (4, .int (nI i))]) (a : Int32) (v : Int32) (k : Int32) (w : Int32) (hca : cardB n a = false) (e1 : xs (i + 1) = a) (e2 : xs (i + 2) = v) (e3 : xs (i + 3) = k) (e4 : xs (i + 4) = w) (kk : ∀ (K' n' : Nat) (x' y' : Nat → Nat → Int32) (o' : Nat → Int64) (th' : Int32) (H' : Heap) (ls' : Array Slot), K' ≤ K + 216 → lwS s D cI cA cL ad am K' n' x' y' o' th' H' → lv_has ls' 7 [(0, .ref b0), (1, .ref (ad 0)), (2, .ref (am 0)), (3, .ref (ad 46)), (4, .int (nI i))] → W p l e room_1 s m #[Value.ref b0] below meth c9 H' [] (cells + 1) (slots + 6) Q (F0 m 1441 ls' [])) : W p l e room_1 s m #[Value.ref b0] below meth c9 H [] cells slots Q (F0 m 204 ls []) := by
  obtain ⟨hx, hb, hF, hK, hDo, hDm, hdis, hT, hXF, hC, hlt, hX, hbl, hL⟩ := C0
  obtain ⟨hPo, hPm, hS, hR⟩ := S0
  have hn9 : n ≤ 24 := hR.n24
  have hn : n ≤ 24 := hn9
  have hts := hF.2.2.2.2
  have hKm := hK.sub (tys' := [(cI, .int), (cA, .array .int)]) [0, 1] rfl
  have hAo : ∀ q, wA ad 47 q → s.heap.size ≤ q := fun q ⟨k, hk, eq⟩ => by rw [eq]; exact hDo.2 k hk
  have hAm : ∀ q, wA am 8 q → s.heap.size ≤ q := fun q ⟨k, hk, eq⟩ => by rw [eq]; exact hDm.2 k hk
  refine lv_aload_n hx hb dL_law_204 rfl (lv_at hl 1 rfl) ?_
  refine lv_aload_n hx hb dL_law_205 rfl (lv_at hl 0 rfl) ?_
  refine lv_iload hx hb dL_law_206 (lv_at hl 4 rfl) ?_
  refine lv_iconst (v := nI 1) hx hb dL_law_208 (by decide) ?_
  refine r_addN (r := i + 1) hx hb dL_law_209 rfl ?_
  refine r_sld hx hb hX hbl hL hS (i := i + 1) (by omega) e1 dL_law_210 ?_
  refine lv_aload_n hx hb dL_law_211 rfl (lv_at hl 0 rfl) ?_
  refine lv_iload hx hb dL_law_212 (lv_at hl 4 rfl) ?_
  refine lv_iconst (v := nI 2) hx hb dL_law_214 (by decide) ?_
  refine r_addN (r := i + 2) hx hb dL_law_215 rfl ?_
  refine r_sld hx hb hX hbl hL hS (i := i + 2) (by omega) e2 dL_law_216 ?_
  refine lv_aload_n hx hb dL_law_217 rfl (lv_at hl 0 rfl) ?_
  refine lv_iload hx hb dL_law_218 (lv_at hl 4 rfl) ?_
  refine lv_iconst (v := nI 3) hx hb dL_law_220 (by decide) ?_
  refine r_addN (r := i + 3) hx hb dL_law_221 rfl ?_
  refine r_sld hx hb hX hbl hL hS (i := i + 3) (by omega) e3 dL_law_222 ?_
  refine lv_aload_n hx hb dL_law_223 rfl (lv_at hl 0 rfl) ?_
  refine lv_iload hx hb dL_law_224 (lv_at hl 4 rfl) ?_
  refine lv_iconst (v := nI 4) hx hb dL_law_226 (by decide) ?_
  refine r_addN (r := i + 4) hx hb dL_law_227 rfl ?_
  refine r_sld hx hb hX hbl hL hS (i := i + 4) (by omega) e4 dL_law_228 ?_
  refine lv_aload_n hx hb dL_law_229 rfl (lv_at hl 3 rfl) ?_
  refine k_L (vx_runSW (As := [.ref (ad 0), .int a, .int v, .int k, .int w, .ref (ad 46)]) (rest := []) hF (w_turn_Ta l D cI cA ad n x a v k w cL o hlt hca) (vx_cwSW 6 hts gL_law_L_turn rfl rfl rfl (by decide +kernel) ⟨(Nat.le_of_ble_eq_true rfl), (Nat.le_of_ble_eq_true rfl)⟩) (lw_pre hK hDo hT hXF hC hPo hS) rfl rfl hl.1 rfl (lv_room (Nat.le_of_ble_eq_true rfl)) dL_law_230 hroom) hAo (fun H1 hP1 hz hk9 => ?_)
  have hPm := lw_keep (fun j hj ⟨k, hk, eq⟩ => hdis k j hk hj eq.symm) hPm hk9
  have hS := lw_S hAo hS hz hk9
  refine lv_istore (lv' := [(5, .int (nI 1)), (0, .ref b0), (1, .ref (ad 0)), (2, .ref (am 0)), (3, .ref (ad 46)), (4, .int (nI i))]) hx hb dL_law_233 hl (by decide) rfl (fun ls hl => ?_)
  refine lv_aload_n hx hb dL_law_235 rfl (lv_at hl 3 rfl) ?_
  refine lv_aload_n hx hb dL_law_236 rfl (lv_at hl 1 rfl) ?_
  refine lv_iload hx hb dL_law_237 (lv_at hl 5 rfl) ?_
  refine lv_iconst (v := nI 1) hx hb dL_law_239 (by decide) ?_
  refine r_addN (r := i + 1) hx hb dL_law_240 rfl ?_
  refine r_sld hx hb hX hbl hL hS (i := i + 1) (by omega) e1 dL_law_241 ?_
  refine lv_aload_n hx hb dL_law_242 rfl (lv_at hl 1 rfl) ?_
  refine lv_iload hx hb dL_law_243 (lv_at hl 5 rfl) ?_
  refine lv_iconst (v := nI 2) hx hb dL_law_245 (by decide) ?_
  refine r_addN (r := i + 2) hx hb dL_law_246 rfl ?_
  refine r_sld hx hb hX hbl hL hS (i := i + 2) (by omega) e2 dL_law_247 ?_
  refine lv_aload_n hx hb dL_law_248 rfl (lv_at hl 1 rfl) ?_
  refine lv_iload hx hb dL_law_249 (lv_at hl 5 rfl) ?_
  refine lv_iconst (v := nI 3) hx hb dL_law_251 (by decide) ?_
  refine r_addN (r := i + 3) hx hb dL_law_252 rfl ?_
  refine r_sld hx hb hX hbl hL hS (i := i + 3) (by omega) e3 dL_law_253 ?_
  refine lv_aload_n hx hb dL_law_254 rfl (lv_at hl 1 rfl) ?_
  refine lv_iload hx hb dL_law_255 (lv_at hl 5 rfl) ?_
  refine lv_iconst (v := nI 4) hx hb dL_law_257 (by decide) ?_
  refine r_addN (r := i + 4) hx hb dL_law_258 rfl ?_
  refine r_sld hx hb hX hbl hL hS (i := i + 4) (by omega) e4 dL_law_259 ?_
  refine k_M (va_runV (As := [.int a, .int v, .int k, .int w]) (rest := []) hF (m_turn_1 l D cI cA am th n y a v k w hca hn9) (cwV 4 hts gL_law_X4_turn rfl rfl rfl (by decide +kernel) ⟨(Nat.le_of_ble_eq_true rfl), (Nat.le_of_ble_eq_true rfl)⟩) (k_pre hPm hKm hDm hT (k := 0) (by decide) mF_0 rfl) rfl rfl hl.1 rfl (lv_room (Nat.le_of_ble_eq_true rfl)) dL_law_260 ⟨hroom.1, hroom.2⟩) hAm (fun H2 hPm hz hk9 => ?_)
  have hPo := lw_keep (fun j hj ⟨k, hk, eq⟩ => hdis j k hj hk eq) hP1 hk9
  have hS := lw_S hAm hS hz hk9
  refine lv_istore (lv' := [(6, .int (bI false)), (5, .int (nI 1)), (0, .ref b0), (1, .ref (ad 0)), (2, .ref (am 0)), (3, .ref (ad 46)), (4, .int (nI i))]) hx hb dL_law_263 hl (by decide) rfl (fun ls hl => ?_)
  refine lv_aload_n hx hb dL_law_265 rfl (lv_at hl 4 rfl) ?_
  refine k_Ri (va_runV (As := []) (rest := []) hF (c_X4_thrown l D cI cA am _ _ _) (cwV 0 hts gL_law_X4_thrown rfl rfl rfl (by decide +kernel) ⟨(Nat.le_of_ble_eq_true rfl), (Nat.le_of_ble_eq_true rfl)⟩) (k_pre hPm hKm hDm hT (k := 0) (by decide) mF_0 rfl) rfl rfl hl.1 rfl (lv_room (Nat.le_of_ble_eq_true rfl)) dL_law_266 ⟨hroom.1, hroom.2⟩) ?_
  refine lv_iload hx hb dL_law_269 (lv_at hl 1 rfl) ?_
  refine r_ceqN (tgt := 276) hx hb (by decide) (by decide) dL_law_271 (by decide) (fun _ => ?_) (fun h => absurd rfl h)
  refine lv_iload hx hb dL_law_276 (lv_at hl 1 rfl) ?_
  refine r_ifneN (a := 1) (tgt := 300) hx hb (by decide) dL_law_278 (by decide) (fun _ => ?_) (fun h => absurd h (by decide))
  refine lv_goto (tgt := 1441) hx hb dL_law_300 (by decide) ?_
  exact kk _ _ _ _ _ _ _ _ (by omega) ⟨hPo, hPm, hS, hR⟩ (lv_sub hl [2, 3, 4, 5, 6] rfl)
set_option maxHeartbeats 4000000 in
set_option maxRecDepth 100000 in
theorem z_turn_Tb {p : Program} {l : Launch} {e : Env} {s : State} {m : MethodId} {below : List Frame} {meth : Method} {c9 : Code} {H : Heap} {cells slots : Nat} {Q : State → Prop} {ls : Array Slot} {D : va_G} {b0 L : Nat} {xs : Nat → Int32} {cI cA cL : ClassId} {ad am : Nat → Nat} {K n : Nat} {x y : Nat → Nat → Int32} {o : Nat → Int64} {th : Int32} {i : Nat} (C0 : lwC p l s m c9 b0 L xs D cI cA cL ad am) (S0 : lwS s D cI cA cL ad am K n x y o th H) (hK30 : K < 2 ^ 30) (hroom : cells + 1 ≤ room_1.cells ∧ slots + 6 ≤ room_1.slots) (hi : i + 4 < L) (hl : lv_has ls 7 [(0, .ref b0), (1, .ref (ad 0)), (2, .ref (am 0)), (3, .ref (ad 46)), (4, .int (nI i))]) (c : Nat) (v : Int32) (k : Int32) (w : Int32) (hc : c < n) (hbad : (chgB v && kindB k && valueB w) = false) (e1 : xs (i + 1) = nI c) (e2 : xs (i + 2) = v) (e3 : xs (i + 3) = k) (e4 : xs (i + 4) = w) (kk : ∀ (K' n' : Nat) (x' y' : Nat → Nat → Int32) (o' : Nat → Int64) (th' : Int32) (H' : Heap) (ls' : Array Slot), K' ≤ K + 216 → lwS s D cI cA cL ad am K' n' x' y' o' th' H' → lv_has ls' 7 [(0, .ref b0), (1, .ref (ad 0)), (2, .ref (am 0)), (3, .ref (ad 46)), (4, .int (nI i))] → W p l e room_1 s m #[Value.ref b0] below meth c9 H' [] (cells + 1) (slots + 6) Q (F0 m 1441 ls' [])) : W p l e room_1 s m #[Value.ref b0] below meth c9 H [] cells slots Q (F0 m 204 ls []) := by
  obtain ⟨hx, hb, hF, hK, hDo, hDm, hdis, hT, hXF, hC, hlt, hX, hbl, hL⟩ := C0
  obtain ⟨hPo, hPm, hS, hR⟩ := S0
  have hn9 : n ≤ 24 := hR.n24
  have hn : n ≤ 24 := hn9
  have hts := hF.2.2.2.2
  have hKm := hK.sub (tys' := [(cI, .int), (cA, .array .int)]) [0, 1] rfl
  have hAo : ∀ q, wA ad 47 q → s.heap.size ≤ q := fun q ⟨k, hk, eq⟩ => by rw [eq]; exact hDo.2 k hk
  have hAm : ∀ q, wA am 8 q → s.heap.size ≤ q := fun q ⟨k, hk, eq⟩ => by rw [eq]; exact hDm.2 k hk
  refine lv_aload_n hx hb dL_law_204 rfl (lv_at hl 1 rfl) ?_
  refine lv_aload_n hx hb dL_law_205 rfl (lv_at hl 0 rfl) ?_
  refine lv_iload hx hb dL_law_206 (lv_at hl 4 rfl) ?_
  refine lv_iconst (v := nI 1) hx hb dL_law_208 (by decide) ?_
  refine r_addN (r := i + 1) hx hb dL_law_209 rfl ?_
  refine r_sld hx hb hX hbl hL hS (i := i + 1) (by omega) e1 dL_law_210 ?_
  refine lv_aload_n hx hb dL_law_211 rfl (lv_at hl 0 rfl) ?_
  refine lv_iload hx hb dL_law_212 (lv_at hl 4 rfl) ?_
  refine lv_iconst (v := nI 2) hx hb dL_law_214 (by decide) ?_
  refine r_addN (r := i + 2) hx hb dL_law_215 rfl ?_
  refine r_sld hx hb hX hbl hL hS (i := i + 2) (by omega) e2 dL_law_216 ?_
  refine lv_aload_n hx hb dL_law_217 rfl (lv_at hl 0 rfl) ?_
  refine lv_iload hx hb dL_law_218 (lv_at hl 4 rfl) ?_
  refine lv_iconst (v := nI 3) hx hb dL_law_220 (by decide) ?_
  refine r_addN (r := i + 3) hx hb dL_law_221 rfl ?_
  refine r_sld hx hb hX hbl hL hS (i := i + 3) (by omega) e3 dL_law_222 ?_
  refine lv_aload_n hx hb dL_law_223 rfl (lv_at hl 0 rfl) ?_
  refine lv_iload hx hb dL_law_224 (lv_at hl 4 rfl) ?_
  refine lv_iconst (v := nI 4) hx hb dL_law_226 (by decide) ?_
  refine r_addN (r := i + 4) hx hb dL_law_227 rfl ?_
  refine r_sld hx hb hX hbl hL hS (i := i + 4) (by omega) e4 dL_law_228 ?_
  refine lv_aload_n hx hb dL_law_229 rfl (lv_at hl 3 rfl) ?_
  refine k_L (vx_runSW (As := [.ref (ad 0), .int (nI c), .int v, .int k, .int w, .ref (ad 46)]) (rest := []) hF (w_turn_Tb l D cI cA ad n x c v k w cL o hlt hc hn hbad) (vx_cwSW 6 hts gL_law_L_turn rfl rfl rfl (by decide +kernel) ⟨(Nat.le_of_ble_eq_true rfl), (Nat.le_of_ble_eq_true rfl)⟩) (lw_pre hK hDo hT hXF hC hPo hS) rfl rfl hl.1 rfl (lv_room (Nat.le_of_ble_eq_true rfl)) dL_law_230 hroom) hAo (fun H1 hP1 hz hk9 => ?_)
  have hPm := lw_keep (fun j hj ⟨k, hk, eq⟩ => hdis k j hk hj eq.symm) hPm hk9
  have hS := lw_S hAo hS hz hk9
  refine lv_istore (lv' := [(5, .int (nI 2)), (0, .ref b0), (1, .ref (ad 0)), (2, .ref (am 0)), (3, .ref (ad 46)), (4, .int (nI i))]) hx hb dL_law_233 hl (by decide) rfl (fun ls hl => ?_)
  refine lv_aload_n hx hb dL_law_235 rfl (lv_at hl 3 rfl) ?_
  refine lv_aload_n hx hb dL_law_236 rfl (lv_at hl 1 rfl) ?_
  refine lv_iload hx hb dL_law_237 (lv_at hl 5 rfl) ?_
  refine lv_iconst (v := nI 1) hx hb dL_law_239 (by decide) ?_
  refine r_addN (r := i + 1) hx hb dL_law_240 rfl ?_
  refine r_sld hx hb hX hbl hL hS (i := i + 1) (by omega) e1 dL_law_241 ?_
  refine lv_aload_n hx hb dL_law_242 rfl (lv_at hl 1 rfl) ?_
  refine lv_iload hx hb dL_law_243 (lv_at hl 5 rfl) ?_
  refine lv_iconst (v := nI 2) hx hb dL_law_245 (by decide) ?_
  refine r_addN (r := i + 2) hx hb dL_law_246 rfl ?_
  refine r_sld hx hb hX hbl hL hS (i := i + 2) (by omega) e2 dL_law_247 ?_
  refine lv_aload_n hx hb dL_law_248 rfl (lv_at hl 1 rfl) ?_
  refine lv_iload hx hb dL_law_249 (lv_at hl 5 rfl) ?_
  refine lv_iconst (v := nI 3) hx hb dL_law_251 (by decide) ?_
  refine r_addN (r := i + 3) hx hb dL_law_252 rfl ?_
  refine r_sld hx hb hX hbl hL hS (i := i + 3) (by omega) e3 dL_law_253 ?_
  refine lv_aload_n hx hb dL_law_254 rfl (lv_at hl 1 rfl) ?_
  refine lv_iload hx hb dL_law_255 (lv_at hl 5 rfl) ?_
  refine lv_iconst (v := nI 4) hx hb dL_law_257 (by decide) ?_
  refine r_addN (r := i + 4) hx hb dL_law_258 rfl ?_
  refine r_sld hx hb hX hbl hL hS (i := i + 4) (by omega) e4 dL_law_259 ?_
  refine k_M (va_runV (As := [.int (nI c), .int v, .int k, .int w]) (rest := []) hF (m_turn_2 l D cI cA am th n y c v k w hc hn9 hbad) (cwV 4 hts gL_law_X4_turn rfl rfl rfl (by decide +kernel) ⟨(Nat.le_of_ble_eq_true rfl), (Nat.le_of_ble_eq_true rfl)⟩) (k_pre hPm hKm hDm hT (k := 0) (by decide) mF_0 rfl) rfl rfl hl.1 rfl (lv_room (Nat.le_of_ble_eq_true rfl)) dL_law_260 ⟨hroom.1, hroom.2⟩) hAm (fun H2 hPm hz hk9 => ?_)
  have hPo := lw_keep (fun j hj ⟨k, hk, eq⟩ => hdis j k hj hk eq) hP1 hk9
  have hS := lw_S hAm hS hz hk9
  refine lv_istore (lv' := [(6, .int (bI false)), (5, .int (nI 2)), (0, .ref b0), (1, .ref (ad 0)), (2, .ref (am 0)), (3, .ref (ad 46)), (4, .int (nI i))]) hx hb dL_law_263 hl (by decide) rfl (fun ls hl => ?_)
  refine lv_aload_n hx hb dL_law_265 rfl (lv_at hl 4 rfl) ?_
  refine k_Ri (va_runV (As := []) (rest := []) hF (c_X4_thrown l D cI cA am _ _ _) (cwV 0 hts gL_law_X4_thrown rfl rfl rfl (by decide +kernel) ⟨(Nat.le_of_ble_eq_true rfl), (Nat.le_of_ble_eq_true rfl)⟩) (k_pre hPm hKm hDm hT (k := 0) (by decide) mF_0 rfl) rfl rfl hl.1 rfl (lv_room (Nat.le_of_ble_eq_true rfl)) dL_law_266 ⟨hroom.1, hroom.2⟩) ?_
  refine lv_iload hx hb dL_law_269 (lv_at hl 1 rfl) ?_
  refine r_ceqN (tgt := 276) hx hb (by decide) (by decide) dL_law_271 (by decide) (fun _ => ?_) (fun h => absurd rfl h)
  refine lv_iload hx hb dL_law_276 (lv_at hl 1 rfl) ?_
  refine r_ifneN (a := 2) (tgt := 300) hx hb (by decide) dL_law_278 (by decide) (fun _ => ?_) (fun h => absurd h (by decide))
  refine lv_goto (tgt := 1441) hx hb dL_law_300 (by decide) ?_
  exact kk _ _ _ _ _ _ _ _ (by omega) ⟨hPo, hPm, hS, hR⟩ (lv_sub hl [2, 3, 4, 5, 6] rfl)
set_option maxHeartbeats 4000000 in
set_option maxRecDepth 100000 in
theorem z_rename_0 {p : Program} {l : Launch} {e : Env} {s : State} {m : MethodId} {below : List Frame} {meth : Method} {c9 : Code} {H : Heap} {cells slots : Nat} {Q : State → Prop} {ls : Array Slot} {D : va_G} {b0 L : Nat} {xs : Nat → Int32} {cI cA cL : ClassId} {ad am : Nat → Nat} {K n : Nat} {x y : Nat → Nat → Int32} {o : Nat → Int64} {th : Int32} {i : Nat} (C0 : lwC p l s m c9 b0 L xs D cI cA cL ad am) (S0 : lwS s D cI cA cL ad am K n x y o th H) (hK30 : K < 2 ^ 30) (hroom : cells + 1 ≤ room_1.cells ∧ slots + 6 ≤ room_1.slots) (hi : i + 4 < L) (hl : lv_has ls 7 [(0, .ref b0), (1, .ref (ad 0)), (2, .ref (am 0)), (3, .ref (ad 46)), (4, .int (nI i))]) (c : Nat) (v : Nat) (w : Int32) (hc : c < n) (hv : v < 2) (hnm : nameB w = true) (e1 : xs (i + 1) = nI c) (e2 : xs (i + 2) = nI v) (e3 : xs (i + 3) = w) (kk : ∀ (K' n' : Nat) (x' y' : Nat → Nat → Int32) (o' : Nat → Int64) (th' : Int32) (H' : Heap) (ls' : Array Slot), K' ≤ K + 216 → lwS s D cI cA cL ad am K' n' x' y' o' th' H' → lv_has ls' 7 [(0, .ref b0), (1, .ref (ad 0)), (2, .ref (am 0)), (3, .ref (ad 46)), (4, .int (nI i))] → W p l e room_1 s m #[Value.ref b0] below meth c9 H' [] (cells + 1) (slots + 6) Q (F0 m 1441 ls' [])) : W p l e room_1 s m #[Value.ref b0] below meth c9 H [] cells slots Q (F0 m 303 ls []) := by
  obtain ⟨hx, hb, hF, hK, hDo, hDm, hdis, hT, hXF, hC, hlt, hX, hbl, hL⟩ := C0
  obtain ⟨hPo, hPm, hS, hR⟩ := S0
  have hn9 : n ≤ 24 := hR.n24
  have hn : n ≤ 24 := hn9
  have hts := hF.2.2.2.2
  have hKm := hK.sub (tys' := [(cI, .int), (cA, .array .int)]) [0, 1] rfl
  have hAo : ∀ q, wA ad 47 q → s.heap.size ≤ q := fun q ⟨k, hk, eq⟩ => by rw [eq]; exact hDo.2 k hk
  have hAm : ∀ q, wA am 8 q → s.heap.size ≤ q := fun q ⟨k, hk, eq⟩ => by rw [eq]; exact hDm.2 k hk
  refine lv_aload_n hx hb dL_law_303 rfl (lv_at hl 1 rfl) ?_
  refine lv_aload_n hx hb dL_law_304 rfl (lv_at hl 0 rfl) ?_
  refine lv_iload hx hb dL_law_305 (lv_at hl 4 rfl) ?_
  refine lv_iconst (v := nI 1) hx hb dL_law_307 (by decide) ?_
  refine r_addN (r := i + 1) hx hb dL_law_308 rfl ?_
  refine r_sld hx hb hX hbl hL hS (i := i + 1) (by omega) e1 dL_law_309 ?_
  refine lv_aload_n hx hb dL_law_310 rfl (lv_at hl 0 rfl) ?_
  refine lv_iload hx hb dL_law_311 (lv_at hl 4 rfl) ?_
  refine lv_iconst (v := nI 2) hx hb dL_law_313 (by decide) ?_
  refine r_addN (r := i + 2) hx hb dL_law_314 rfl ?_
  refine r_sld hx hb hX hbl hL hS (i := i + 2) (by omega) e2 dL_law_315 ?_
  refine lv_aload_n hx hb dL_law_316 rfl (lv_at hl 0 rfl) ?_
  refine lv_iload hx hb dL_law_317 (lv_at hl 4 rfl) ?_
  refine lv_iconst (v := nI 3) hx hb dL_law_319 (by decide) ?_
  refine r_addN (r := i + 3) hx hb dL_law_320 rfl ?_
  refine r_sld hx hb hX hbl hL hS (i := i + 3) (by omega) e3 dL_law_321 ?_
  refine lv_aload_n hx hb dL_law_322 rfl (lv_at hl 3 rfl) ?_
  refine k_L (vx_runSW (As := [.ref (ad 0), .int (nI c), .int (nI v), .int w, .ref (ad 46)]) (rest := []) hF (w_rename_0 l D cI cA ad n x c v w cL o hc hn hv hnm) (vx_cwSW 5 hts gL_law_L_rename rfl rfl rfl (by decide +kernel) ⟨(Nat.le_of_ble_eq_true rfl), (Nat.le_of_ble_eq_true rfl)⟩) (lw_pre hK hDo hT hXF hC hPo hS) rfl rfl hl.1 rfl (lv_room (Nat.le_of_ble_eq_true rfl)) dL_law_323 hroom) hAo (fun H1 hP1 hz hk9 => ?_)
  have hPm := lw_keep (fun j hj ⟨k, hk, eq⟩ => hdis k j hk hj eq.symm) hPm hk9
  have hS := lw_S hAo hS hz hk9
  refine lv_istore (lv' := [(5, .int (nI 0)), (0, .ref b0), (1, .ref (ad 0)), (2, .ref (am 0)), (3, .ref (ad 46)), (4, .int (nI i))]) hx hb dL_law_326 hl (by decide) rfl (fun ls hl => ?_)
  refine lv_aload_n hx hb dL_law_328 rfl (lv_at hl 3 rfl) ?_
  refine lv_aload_n hx hb dL_law_329 rfl (lv_at hl 1 rfl) ?_
  refine lv_iload hx hb dL_law_330 (lv_at hl 5 rfl) ?_
  refine lv_iconst (v := nI 1) hx hb dL_law_332 (by decide) ?_
  refine r_addN (r := i + 1) hx hb dL_law_333 rfl ?_
  refine r_sld hx hb hX hbl hL hS (i := i + 1) (by omega) e1 dL_law_334 ?_
  refine lv_aload_n hx hb dL_law_335 rfl (lv_at hl 1 rfl) ?_
  refine lv_iload hx hb dL_law_336 (lv_at hl 5 rfl) ?_
  refine lv_iconst (v := nI 2) hx hb dL_law_338 (by decide) ?_
  refine r_addN (r := i + 2) hx hb dL_law_339 rfl ?_
  refine r_sld hx hb hX hbl hL hS (i := i + 2) (by omega) e2 dL_law_340 ?_
  refine lv_aload_n hx hb dL_law_341 rfl (lv_at hl 1 rfl) ?_
  refine lv_iload hx hb dL_law_342 (lv_at hl 5 rfl) ?_
  refine lv_iconst (v := nI 3) hx hb dL_law_344 (by decide) ?_
  refine r_addN (r := i + 3) hx hb dL_law_345 rfl ?_
  refine r_sld hx hb hX hbl hL hS (i := i + 3) (by omega) e3 dL_law_346 ?_
  refine k_M (va_runV (As := [.int (nI c), .int (nI v), .int w]) (rest := []) hF (m_rename_0 l D cI cA am th n y c v w hc hn9 hv hnm) (cwV 3 hts gL_law_X4_rename rfl rfl rfl (by decide +kernel) ⟨(Nat.le_of_ble_eq_true rfl), (Nat.le_of_ble_eq_true rfl)⟩) (k_pre hPm hKm hDm hT (k := 0) (by decide) mF_0 rfl) rfl rfl hl.1 rfl (lv_room (Nat.le_of_ble_eq_true rfl)) dL_law_347 ⟨hroom.1, hroom.2⟩) hAm (fun H2 hPm hz hk9 => ?_)
  have hPo := lw_keep (fun j hj ⟨k, hk, eq⟩ => hdis j k hj hk eq) hP1 hk9
  have hS := lw_S hAm hS hz hk9
  refine r_topi (show _ = x (v + 13) c from (hR.name hc (by omega)).symm) ?_
  refine lv_istore (lv' := [(6, .int (x (v + 13) c)), (5, .int (nI 0)), (0, .ref b0), (1, .ref (ad 0)), (2, .ref (am 0)), (3, .ref (ad 46)), (4, .int (nI i))]) hx hb dL_law_350 hl (by decide) rfl (fun ls hl => ?_)
  refine lv_aload_n hx hb dL_law_352 rfl (lv_at hl 4 rfl) ?_
  refine k_Ri (va_runV (As := []) (rest := []) hF (c_X4_thrown l D cI cA am _ _ _) (cwV 0 hts gL_law_X4_thrown rfl rfl rfl (by decide +kernel) ⟨(Nat.le_of_ble_eq_true rfl), (Nat.le_of_ble_eq_true rfl)⟩) (k_pre hPm hKm hDm hT (k := 0) (by decide) mF_0 rfl) rfl rfl hl.1 rfl (lv_room (Nat.le_of_ble_eq_true rfl)) dL_law_353 ⟨hroom.1, hroom.2⟩) ?_
  refine lv_iload hx hb dL_law_356 (lv_at hl 1 rfl) ?_
  refine r_ceqN (tgt := 363) hx hb (by decide) (by decide) dL_law_358 (by decide) (fun _ => ?_) (fun h => absurd rfl h)
  refine lv_iload hx hb dL_law_363 (lv_at hl 1 rfl) ?_
  refine r_ifneN (a := 0) (tgt := 380) hx hb (by decide) dL_law_365 (by decide) (fun h => absurd rfl h) (fun _ => ?_)
  refine lv_aload_n hx hb dL_law_368 rfl (lv_at hl 5 rfl) ?_
  refine lv_iconst (v := nI 0) hx hb dL_law_369 (by decide) ?_
  refine va_lald hx hb hK hPo 46 2 (wl_at (show 46 < 47 by decide)) rfl (vp_in_nI (by decide) (by decide)) dL_law_370 ?_
  rw [oW_0 (w := (x (v + 13) c).toInt64)]
  refine lv_iload hx hb dL_law_371 (lv_at hl 0 rfl) ?_
  refine lv_i2l hx hb dL_law_373 rfl ?_
  refine r_lcmpE hx hb dL_law_374 ?_
  refine r_ifeqN (a := 0) (tgt := 380) hx hb (by decide) dL_law_375 (by decide) (fun _ => ?_) (fun h => absurd rfl h)
  refine lv_goto (tgt := 1441) hx hb dL_law_380 (by decide) ?_
  exact kk _ _ _ _ _ _ _ _ (by omega) ⟨hPo, hPm, hS, Rel_putN hR hc (by omega)⟩ (lv_sub hl [2, 3, 4, 5, 6] rfl)
set_option maxHeartbeats 4000000 in
set_option maxRecDepth 100000 in
theorem z_rename_Ta {p : Program} {l : Launch} {e : Env} {s : State} {m : MethodId} {below : List Frame} {meth : Method} {c9 : Code} {H : Heap} {cells slots : Nat} {Q : State → Prop} {ls : Array Slot} {D : va_G} {b0 L : Nat} {xs : Nat → Int32} {cI cA cL : ClassId} {ad am : Nat → Nat} {K n : Nat} {x y : Nat → Nat → Int32} {o : Nat → Int64} {th : Int32} {i : Nat} (C0 : lwC p l s m c9 b0 L xs D cI cA cL ad am) (S0 : lwS s D cI cA cL ad am K n x y o th H) (hK30 : K < 2 ^ 30) (hroom : cells + 1 ≤ room_1.cells ∧ slots + 6 ≤ room_1.slots) (hi : i + 4 < L) (hl : lv_has ls 7 [(0, .ref b0), (1, .ref (ad 0)), (2, .ref (am 0)), (3, .ref (ad 46)), (4, .int (nI i))]) (a : Int32) (v : Int32) (w : Int32) (hca : cardB n a = false) (e1 : xs (i + 1) = a) (e2 : xs (i + 2) = v) (e3 : xs (i + 3) = w) (kk : ∀ (K' n' : Nat) (x' y' : Nat → Nat → Int32) (o' : Nat → Int64) (th' : Int32) (H' : Heap) (ls' : Array Slot), K' ≤ K + 216 → lwS s D cI cA cL ad am K' n' x' y' o' th' H' → lv_has ls' 7 [(0, .ref b0), (1, .ref (ad 0)), (2, .ref (am 0)), (3, .ref (ad 46)), (4, .int (nI i))] → W p l e room_1 s m #[Value.ref b0] below meth c9 H' [] (cells + 1) (slots + 6) Q (F0 m 1441 ls' [])) : W p l e room_1 s m #[Value.ref b0] below meth c9 H [] cells slots Q (F0 m 303 ls []) := by
  obtain ⟨hx, hb, hF, hK, hDo, hDm, hdis, hT, hXF, hC, hlt, hX, hbl, hL⟩ := C0
  obtain ⟨hPo, hPm, hS, hR⟩ := S0
  have hn9 : n ≤ 24 := hR.n24
  have hn : n ≤ 24 := hn9
  have hts := hF.2.2.2.2
  have hKm := hK.sub (tys' := [(cI, .int), (cA, .array .int)]) [0, 1] rfl
  have hAo : ∀ q, wA ad 47 q → s.heap.size ≤ q := fun q ⟨k, hk, eq⟩ => by rw [eq]; exact hDo.2 k hk
  have hAm : ∀ q, wA am 8 q → s.heap.size ≤ q := fun q ⟨k, hk, eq⟩ => by rw [eq]; exact hDm.2 k hk
  refine lv_aload_n hx hb dL_law_303 rfl (lv_at hl 1 rfl) ?_
  refine lv_aload_n hx hb dL_law_304 rfl (lv_at hl 0 rfl) ?_
  refine lv_iload hx hb dL_law_305 (lv_at hl 4 rfl) ?_
  refine lv_iconst (v := nI 1) hx hb dL_law_307 (by decide) ?_
  refine r_addN (r := i + 1) hx hb dL_law_308 rfl ?_
  refine r_sld hx hb hX hbl hL hS (i := i + 1) (by omega) e1 dL_law_309 ?_
  refine lv_aload_n hx hb dL_law_310 rfl (lv_at hl 0 rfl) ?_
  refine lv_iload hx hb dL_law_311 (lv_at hl 4 rfl) ?_
  refine lv_iconst (v := nI 2) hx hb dL_law_313 (by decide) ?_
  refine r_addN (r := i + 2) hx hb dL_law_314 rfl ?_
  refine r_sld hx hb hX hbl hL hS (i := i + 2) (by omega) e2 dL_law_315 ?_
  refine lv_aload_n hx hb dL_law_316 rfl (lv_at hl 0 rfl) ?_
  refine lv_iload hx hb dL_law_317 (lv_at hl 4 rfl) ?_
  refine lv_iconst (v := nI 3) hx hb dL_law_319 (by decide) ?_
  refine r_addN (r := i + 3) hx hb dL_law_320 rfl ?_
  refine r_sld hx hb hX hbl hL hS (i := i + 3) (by omega) e3 dL_law_321 ?_
  refine lv_aload_n hx hb dL_law_322 rfl (lv_at hl 3 rfl) ?_
  refine k_L (vx_runSW (As := [.ref (ad 0), .int a, .int v, .int w, .ref (ad 46)]) (rest := []) hF (w_rename_Ta l D cI cA ad n x a v w cL o hlt hca) (vx_cwSW 5 hts gL_law_L_rename rfl rfl rfl (by decide +kernel) ⟨(Nat.le_of_ble_eq_true rfl), (Nat.le_of_ble_eq_true rfl)⟩) (lw_pre hK hDo hT hXF hC hPo hS) rfl rfl hl.1 rfl (lv_room (Nat.le_of_ble_eq_true rfl)) dL_law_323 hroom) hAo (fun H1 hP1 hz hk9 => ?_)
  have hPm := lw_keep (fun j hj ⟨k, hk, eq⟩ => hdis k j hk hj eq.symm) hPm hk9
  have hS := lw_S hAo hS hz hk9
  refine lv_istore (lv' := [(5, .int (nI 1)), (0, .ref b0), (1, .ref (ad 0)), (2, .ref (am 0)), (3, .ref (ad 46)), (4, .int (nI i))]) hx hb dL_law_326 hl (by decide) rfl (fun ls hl => ?_)
  refine lv_aload_n hx hb dL_law_328 rfl (lv_at hl 3 rfl) ?_
  refine lv_aload_n hx hb dL_law_329 rfl (lv_at hl 1 rfl) ?_
  refine lv_iload hx hb dL_law_330 (lv_at hl 5 rfl) ?_
  refine lv_iconst (v := nI 1) hx hb dL_law_332 (by decide) ?_
  refine r_addN (r := i + 1) hx hb dL_law_333 rfl ?_
  refine r_sld hx hb hX hbl hL hS (i := i + 1) (by omega) e1 dL_law_334 ?_
  refine lv_aload_n hx hb dL_law_335 rfl (lv_at hl 1 rfl) ?_
  refine lv_iload hx hb dL_law_336 (lv_at hl 5 rfl) ?_
  refine lv_iconst (v := nI 2) hx hb dL_law_338 (by decide) ?_
  refine r_addN (r := i + 2) hx hb dL_law_339 rfl ?_
  refine r_sld hx hb hX hbl hL hS (i := i + 2) (by omega) e2 dL_law_340 ?_
  refine lv_aload_n hx hb dL_law_341 rfl (lv_at hl 1 rfl) ?_
  refine lv_iload hx hb dL_law_342 (lv_at hl 5 rfl) ?_
  refine lv_iconst (v := nI 3) hx hb dL_law_344 (by decide) ?_
  refine r_addN (r := i + 3) hx hb dL_law_345 rfl ?_
  refine r_sld hx hb hX hbl hL hS (i := i + 3) (by omega) e3 dL_law_346 ?_
  refine k_M (va_runV (As := [.int a, .int v, .int w]) (rest := []) hF (m_rename_1 l D cI cA am th n y a v w hca hn9) (cwV 3 hts gL_law_X4_rename rfl rfl rfl (by decide +kernel) ⟨(Nat.le_of_ble_eq_true rfl), (Nat.le_of_ble_eq_true rfl)⟩) (k_pre hPm hKm hDm hT (k := 0) (by decide) mF_0 rfl) rfl rfl hl.1 rfl (lv_room (Nat.le_of_ble_eq_true rfl)) dL_law_347 ⟨hroom.1, hroom.2⟩) hAm (fun H2 hPm hz hk9 => ?_)
  have hPo := lw_keep (fun j hj ⟨k, hk, eq⟩ => hdis j k hj hk eq) hP1 hk9
  have hS := lw_S hAm hS hz hk9
  refine lv_istore (lv' := [(6, .int (nI 0)), (5, .int (nI 1)), (0, .ref b0), (1, .ref (ad 0)), (2, .ref (am 0)), (3, .ref (ad 46)), (4, .int (nI i))]) hx hb dL_law_350 hl (by decide) rfl (fun ls hl => ?_)
  refine lv_aload_n hx hb dL_law_352 rfl (lv_at hl 4 rfl) ?_
  refine k_Ri (va_runV (As := []) (rest := []) hF (c_X4_thrown l D cI cA am _ _ _) (cwV 0 hts gL_law_X4_thrown rfl rfl rfl (by decide +kernel) ⟨(Nat.le_of_ble_eq_true rfl), (Nat.le_of_ble_eq_true rfl)⟩) (k_pre hPm hKm hDm hT (k := 0) (by decide) mF_0 rfl) rfl rfl hl.1 rfl (lv_room (Nat.le_of_ble_eq_true rfl)) dL_law_353 ⟨hroom.1, hroom.2⟩) ?_
  refine lv_iload hx hb dL_law_356 (lv_at hl 1 rfl) ?_
  refine r_ceqN (tgt := 363) hx hb (by decide) (by decide) dL_law_358 (by decide) (fun _ => ?_) (fun h => absurd rfl h)
  refine lv_iload hx hb dL_law_363 (lv_at hl 1 rfl) ?_
  refine r_ifneN (a := 1) (tgt := 380) hx hb (by decide) dL_law_365 (by decide) (fun _ => ?_) (fun h => absurd h (by decide))
  refine lv_goto (tgt := 1441) hx hb dL_law_380 (by decide) ?_
  exact kk _ _ _ _ _ _ _ _ (by omega) ⟨hPo, hPm, hS, hR⟩ (lv_sub hl [2, 3, 4, 5, 6] rfl)
set_option maxHeartbeats 4000000 in
set_option maxRecDepth 100000 in
theorem z_rename_Tb {p : Program} {l : Launch} {e : Env} {s : State} {m : MethodId} {below : List Frame} {meth : Method} {c9 : Code} {H : Heap} {cells slots : Nat} {Q : State → Prop} {ls : Array Slot} {D : va_G} {b0 L : Nat} {xs : Nat → Int32} {cI cA cL : ClassId} {ad am : Nat → Nat} {K n : Nat} {x y : Nat → Nat → Int32} {o : Nat → Int64} {th : Int32} {i : Nat} (C0 : lwC p l s m c9 b0 L xs D cI cA cL ad am) (S0 : lwS s D cI cA cL ad am K n x y o th H) (hK30 : K < 2 ^ 30) (hroom : cells + 1 ≤ room_1.cells ∧ slots + 6 ≤ room_1.slots) (hi : i + 4 < L) (hl : lv_has ls 7 [(0, .ref b0), (1, .ref (ad 0)), (2, .ref (am 0)), (3, .ref (ad 46)), (4, .int (nI i))]) (c : Nat) (v : Int32) (w : Int32) (hc : c < n) (hbad : (chgB v && nameB w) = false) (e1 : xs (i + 1) = nI c) (e2 : xs (i + 2) = v) (e3 : xs (i + 3) = w) (kk : ∀ (K' n' : Nat) (x' y' : Nat → Nat → Int32) (o' : Nat → Int64) (th' : Int32) (H' : Heap) (ls' : Array Slot), K' ≤ K + 216 → lwS s D cI cA cL ad am K' n' x' y' o' th' H' → lv_has ls' 7 [(0, .ref b0), (1, .ref (ad 0)), (2, .ref (am 0)), (3, .ref (ad 46)), (4, .int (nI i))] → W p l e room_1 s m #[Value.ref b0] below meth c9 H' [] (cells + 1) (slots + 6) Q (F0 m 1441 ls' [])) : W p l e room_1 s m #[Value.ref b0] below meth c9 H [] cells slots Q (F0 m 303 ls []) := by
  obtain ⟨hx, hb, hF, hK, hDo, hDm, hdis, hT, hXF, hC, hlt, hX, hbl, hL⟩ := C0
  obtain ⟨hPo, hPm, hS, hR⟩ := S0
  have hn9 : n ≤ 24 := hR.n24
  have hn : n ≤ 24 := hn9
  have hts := hF.2.2.2.2
  have hKm := hK.sub (tys' := [(cI, .int), (cA, .array .int)]) [0, 1] rfl
  have hAo : ∀ q, wA ad 47 q → s.heap.size ≤ q := fun q ⟨k, hk, eq⟩ => by rw [eq]; exact hDo.2 k hk
  have hAm : ∀ q, wA am 8 q → s.heap.size ≤ q := fun q ⟨k, hk, eq⟩ => by rw [eq]; exact hDm.2 k hk
  refine lv_aload_n hx hb dL_law_303 rfl (lv_at hl 1 rfl) ?_
  refine lv_aload_n hx hb dL_law_304 rfl (lv_at hl 0 rfl) ?_
  refine lv_iload hx hb dL_law_305 (lv_at hl 4 rfl) ?_
  refine lv_iconst (v := nI 1) hx hb dL_law_307 (by decide) ?_
  refine r_addN (r := i + 1) hx hb dL_law_308 rfl ?_
  refine r_sld hx hb hX hbl hL hS (i := i + 1) (by omega) e1 dL_law_309 ?_
  refine lv_aload_n hx hb dL_law_310 rfl (lv_at hl 0 rfl) ?_
  refine lv_iload hx hb dL_law_311 (lv_at hl 4 rfl) ?_
  refine lv_iconst (v := nI 2) hx hb dL_law_313 (by decide) ?_
  refine r_addN (r := i + 2) hx hb dL_law_314 rfl ?_
  refine r_sld hx hb hX hbl hL hS (i := i + 2) (by omega) e2 dL_law_315 ?_
  refine lv_aload_n hx hb dL_law_316 rfl (lv_at hl 0 rfl) ?_
  refine lv_iload hx hb dL_law_317 (lv_at hl 4 rfl) ?_
  refine lv_iconst (v := nI 3) hx hb dL_law_319 (by decide) ?_
  refine r_addN (r := i + 3) hx hb dL_law_320 rfl ?_
  refine r_sld hx hb hX hbl hL hS (i := i + 3) (by omega) e3 dL_law_321 ?_
  refine lv_aload_n hx hb dL_law_322 rfl (lv_at hl 3 rfl) ?_
  refine k_L (vx_runSW (As := [.ref (ad 0), .int (nI c), .int v, .int w, .ref (ad 46)]) (rest := []) hF (w_rename_Tb l D cI cA ad n x c v w cL o hlt hc hn hbad) (vx_cwSW 5 hts gL_law_L_rename rfl rfl rfl (by decide +kernel) ⟨(Nat.le_of_ble_eq_true rfl), (Nat.le_of_ble_eq_true rfl)⟩) (lw_pre hK hDo hT hXF hC hPo hS) rfl rfl hl.1 rfl (lv_room (Nat.le_of_ble_eq_true rfl)) dL_law_323 hroom) hAo (fun H1 hP1 hz hk9 => ?_)
  have hPm := lw_keep (fun j hj ⟨k, hk, eq⟩ => hdis k j hk hj eq.symm) hPm hk9
  have hS := lw_S hAo hS hz hk9
  refine lv_istore (lv' := [(5, .int (nI 2)), (0, .ref b0), (1, .ref (ad 0)), (2, .ref (am 0)), (3, .ref (ad 46)), (4, .int (nI i))]) hx hb dL_law_326 hl (by decide) rfl (fun ls hl => ?_)
  refine lv_aload_n hx hb dL_law_328 rfl (lv_at hl 3 rfl) ?_
  refine lv_aload_n hx hb dL_law_329 rfl (lv_at hl 1 rfl) ?_
  refine lv_iload hx hb dL_law_330 (lv_at hl 5 rfl) ?_
  refine lv_iconst (v := nI 1) hx hb dL_law_332 (by decide) ?_
  refine r_addN (r := i + 1) hx hb dL_law_333 rfl ?_
  refine r_sld hx hb hX hbl hL hS (i := i + 1) (by omega) e1 dL_law_334 ?_
  refine lv_aload_n hx hb dL_law_335 rfl (lv_at hl 1 rfl) ?_
  refine lv_iload hx hb dL_law_336 (lv_at hl 5 rfl) ?_
  refine lv_iconst (v := nI 2) hx hb dL_law_338 (by decide) ?_
  refine r_addN (r := i + 2) hx hb dL_law_339 rfl ?_
  refine r_sld hx hb hX hbl hL hS (i := i + 2) (by omega) e2 dL_law_340 ?_
  refine lv_aload_n hx hb dL_law_341 rfl (lv_at hl 1 rfl) ?_
  refine lv_iload hx hb dL_law_342 (lv_at hl 5 rfl) ?_
  refine lv_iconst (v := nI 3) hx hb dL_law_344 (by decide) ?_
  refine r_addN (r := i + 3) hx hb dL_law_345 rfl ?_
  refine r_sld hx hb hX hbl hL hS (i := i + 3) (by omega) e3 dL_law_346 ?_
  refine k_M (va_runV (As := [.int (nI c), .int v, .int w]) (rest := []) hF (m_rename_2 l D cI cA am th n y c v w hc hn9 hbad) (cwV 3 hts gL_law_X4_rename rfl rfl rfl (by decide +kernel) ⟨(Nat.le_of_ble_eq_true rfl), (Nat.le_of_ble_eq_true rfl)⟩) (k_pre hPm hKm hDm hT (k := 0) (by decide) mF_0 rfl) rfl rfl hl.1 rfl (lv_room (Nat.le_of_ble_eq_true rfl)) dL_law_347 ⟨hroom.1, hroom.2⟩) hAm (fun H2 hPm hz hk9 => ?_)
  have hPo := lw_keep (fun j hj ⟨k, hk, eq⟩ => hdis j k hj hk eq) hP1 hk9
  have hS := lw_S hAm hS hz hk9
  refine lv_istore (lv' := [(6, .int (nI 0)), (5, .int (nI 2)), (0, .ref b0), (1, .ref (ad 0)), (2, .ref (am 0)), (3, .ref (ad 46)), (4, .int (nI i))]) hx hb dL_law_350 hl (by decide) rfl (fun ls hl => ?_)
  refine lv_aload_n hx hb dL_law_352 rfl (lv_at hl 4 rfl) ?_
  refine k_Ri (va_runV (As := []) (rest := []) hF (c_X4_thrown l D cI cA am _ _ _) (cwV 0 hts gL_law_X4_thrown rfl rfl rfl (by decide +kernel) ⟨(Nat.le_of_ble_eq_true rfl), (Nat.le_of_ble_eq_true rfl)⟩) (k_pre hPm hKm hDm hT (k := 0) (by decide) mF_0 rfl) rfl rfl hl.1 rfl (lv_room (Nat.le_of_ble_eq_true rfl)) dL_law_353 ⟨hroom.1, hroom.2⟩) ?_
  refine lv_iload hx hb dL_law_356 (lv_at hl 1 rfl) ?_
  refine r_ceqN (tgt := 363) hx hb (by decide) (by decide) dL_law_358 (by decide) (fun _ => ?_) (fun h => absurd rfl h)
  refine lv_iload hx hb dL_law_363 (lv_at hl 1 rfl) ?_
  refine r_ifneN (a := 2) (tgt := 380) hx hb (by decide) dL_law_365 (by decide) (fun _ => ?_) (fun h => absurd h (by decide))
  refine lv_goto (tgt := 1441) hx hb dL_law_380 (by decide) ?_
  exact kk _ _ _ _ _ _ _ _ (by omega) ⟨hPo, hPm, hS, hR⟩ (lv_sub hl [2, 3, 4, 5, 6] rfl)
set_option maxHeartbeats 4000000 in
set_option maxRecDepth 100000 in
theorem z_sync_0 {p : Program} {l : Launch} {e : Env} {s : State} {m : MethodId} {below : List Frame} {meth : Method} {c9 : Code} {H : Heap} {cells slots : Nat} {Q : State → Prop} {ls : Array Slot} {D : va_G} {b0 L : Nat} {xs : Nat → Int32} {cI cA cL : ClassId} {ad am : Nat → Nat} {K n : Nat} {x y : Nat → Nat → Int32} {o : Nat → Int64} {th : Int32} {i : Nat} (C0 : lwC p l s m c9 b0 L xs D cI cA cL ad am) (S0 : lwS s D cI cA cL ad am K n x y o th H) (hK30 : K < 2 ^ 30) (hroom : cells + 1 ≤ room_1.cells ∧ slots + 6 ≤ room_1.slots) (hi : i + 4 < L) (hl : lv_has ls 7 [(0, .ref b0), (1, .ref (ad 0)), (2, .ref (am 0)), (3, .ref (ad 46)), (4, .int (nI i))]) (b : Int32) (hbk : bookB b = true) (e1 : xs (i + 1) = b) (kk : ∀ (K' n' : Nat) (x' y' : Nat → Nat → Int32) (o' : Nat → Int64) (th' : Int32) (H' : Heap) (ls' : Array Slot), K' ≤ K + 216 → lwS s D cI cA cL ad am K' n' x' y' o' th' H' → lv_has ls' 7 [(0, .ref b0), (1, .ref (ad 0)), (2, .ref (am 0)), (3, .ref (ad 46)), (4, .int (nI i))] → W p l e room_1 s m #[Value.ref b0] below meth c9 H' [] (cells + 1) (slots + 6) Q (F0 m 1441 ls' [])) : W p l e room_1 s m #[Value.ref b0] below meth c9 H [] cells slots Q (F0 m 383 ls []) := by
  obtain ⟨hx, hb, hF, hK, hDo, hDm, hdis, hT, hXF, hC, hlt, hX, hbl, hL⟩ := C0
  obtain ⟨hPo, hPm, hS, hR⟩ := S0
  have hn9 : n ≤ 24 := hR.n24
  have hn : n ≤ 24 := hn9
  have hts := hF.2.2.2.2
  have hKm := hK.sub (tys' := [(cI, .int), (cA, .array .int)]) [0, 1] rfl
  have hAo : ∀ q, wA ad 47 q → s.heap.size ≤ q := fun q ⟨k, hk, eq⟩ => by rw [eq]; exact hDo.2 k hk
  have hAm : ∀ q, wA am 8 q → s.heap.size ≤ q := fun q ⟨k, hk, eq⟩ => by rw [eq]; exact hDm.2 k hk
  refine lv_aload_n hx hb dL_law_383 rfl (lv_at hl 1 rfl) ?_
  refine lv_aload_n hx hb dL_law_384 rfl (lv_at hl 0 rfl) ?_
  refine lv_iload hx hb dL_law_385 (lv_at hl 4 rfl) ?_
  refine lv_iconst (v := nI 1) hx hb dL_law_387 (by decide) ?_
  refine r_addN (r := i + 1) hx hb dL_law_388 rfl ?_
  refine r_sld hx hb hX hbl hL hS (i := i + 1) (by omega) e1 dL_law_389 ?_
  refine lv_aload_n hx hb dL_law_390 rfl (lv_at hl 3 rfl) ?_
  refine k_L (vx_runSW (As := [.ref (ad 0), .int b, .ref (ad 46)]) (rest := []) hF (w_sync_0 l D cI cA ad n x b cL o hbk hn) (vx_cwSW 3 hts gL_law_L_sync rfl rfl rfl (by decide +kernel) ⟨(Nat.le_of_ble_eq_true rfl), (Nat.le_of_ble_eq_true rfl)⟩) (lw_pre hK hDo hT hXF hC hPo hS) rfl rfl hl.1 rfl (lv_room (Nat.le_of_ble_eq_true rfl)) dL_law_391 hroom) hAo (fun H1 hP1 hz hk9 => ?_)
  have hPm := lw_keep (fun j hj ⟨k, hk, eq⟩ => hdis k j hk hj eq.symm) hPm hk9
  have hS := lw_S hAo hS hz hk9
  refine lv_istore (lv' := [(5, .int (nI 0)), (0, .ref b0), (1, .ref (ad 0)), (2, .ref (am 0)), (3, .ref (ad 46)), (4, .int (nI i))]) hx hb dL_law_394 hl (by decide) rfl (fun ls hl => ?_)
  refine lv_aload_n hx hb dL_law_396 rfl (lv_at hl 3 rfl) ?_
  refine lv_aload_n hx hb dL_law_397 rfl (lv_at hl 1 rfl) ?_
  refine lv_iload hx hb dL_law_398 (lv_at hl 5 rfl) ?_
  refine lv_iconst (v := nI 1) hx hb dL_law_400 (by decide) ?_
  refine r_addN (r := i + 1) hx hb dL_law_401 rfl ?_
  refine r_sld hx hb hX hbl hL hS (i := i + 1) (by omega) e1 dL_law_402 ?_
  refine k_M (va_runV (As := [.int b]) (rest := []) hF (m_sync_0 l D cI cA am th n y b hbk hn9) (cwV 1 hts gL_law_X4_sync rfl rfl rfl (by decide +kernel) ⟨(Nat.le_of_ble_eq_true rfl), (Nat.le_of_ble_eq_true rfl)⟩) (k_pre hPm hKm hDm hT (k := 0) (by decide) mF_0 rfl) rfl rfl hl.1 rfl (lv_room (Nat.le_of_ble_eq_true rfl)) dL_law_403 ⟨hroom.1, hroom.2⟩) hAm (fun H2 hPm hz hk9 => ?_)
  have hPo := lw_keep (fun j hj ⟨k, hk, eq⟩ => hdis j k hj hk eq) hP1 hk9
  have hS := lw_S hAm hS hz hk9
  refine r_topi (show _ = syC x b n from ((Rel_sync hR n (Nat.le_refl _)).2).symm) ?_
  refine lv_istore (lv' := [(6, .int (syC x b n)), (5, .int (nI 0)), (0, .ref b0), (1, .ref (ad 0)), (2, .ref (am 0)), (3, .ref (ad 46)), (4, .int (nI i))]) hx hb dL_law_406 hl (by decide) rfl (fun ls hl => ?_)
  refine lv_aload_n hx hb dL_law_408 rfl (lv_at hl 4 rfl) ?_
  refine k_Ri (va_runV (As := []) (rest := []) hF (c_X4_thrown l D cI cA am _ _ _) (cwV 0 hts gL_law_X4_thrown rfl rfl rfl (by decide +kernel) ⟨(Nat.le_of_ble_eq_true rfl), (Nat.le_of_ble_eq_true rfl)⟩) (k_pre hPm hKm hDm hT (k := 0) (by decide) mF_0 rfl) rfl rfl hl.1 rfl (lv_room (Nat.le_of_ble_eq_true rfl)) dL_law_409 ⟨hroom.1, hroom.2⟩) ?_
  refine lv_iload hx hb dL_law_412 (lv_at hl 1 rfl) ?_
  refine r_ceqN (tgt := 419) hx hb (by decide) (by decide) dL_law_414 (by decide) (fun _ => ?_) (fun h => absurd rfl h)
  refine lv_iload hx hb dL_law_419 (lv_at hl 1 rfl) ?_
  refine r_ifneN (a := 0) (tgt := 436) hx hb (by decide) dL_law_421 (by decide) (fun h => absurd rfl h) (fun _ => ?_)
  refine lv_aload_n hx hb dL_law_424 rfl (lv_at hl 5 rfl) ?_
  refine lv_iconst (v := nI 0) hx hb dL_law_425 (by decide) ?_
  refine va_lald hx hb hK hPo 46 2 (wl_at (show 46 < 47 by decide)) rfl (vp_in_nI (by decide) (by decide)) dL_law_426 ?_
  rw [oW_0 (w := (syC x b n).toInt64)]
  refine lv_iload hx hb dL_law_427 (lv_at hl 0 rfl) ?_
  refine lv_i2l hx hb dL_law_429 rfl ?_
  refine r_lcmpE hx hb dL_law_430 ?_
  refine r_ifeqN (a := 0) (tgt := 436) hx hb (by decide) dL_law_431 (by decide) (fun _ => ?_) (fun h => absurd rfl h)
  refine lv_goto (tgt := 1441) hx hb dL_law_436 (by decide) ?_
  exact kk _ _ _ _ _ _ _ _ (by omega) ⟨hPo, hPm, hS, (Rel_sync hR n (Nat.le_refl _)).1⟩ (lv_sub hl [2, 3, 4, 5, 6] rfl)
set_option maxHeartbeats 4000000 in
set_option maxRecDepth 100000 in
theorem z_sync_Ta {p : Program} {l : Launch} {e : Env} {s : State} {m : MethodId} {below : List Frame} {meth : Method} {c9 : Code} {H : Heap} {cells slots : Nat} {Q : State → Prop} {ls : Array Slot} {D : va_G} {b0 L : Nat} {xs : Nat → Int32} {cI cA cL : ClassId} {ad am : Nat → Nat} {K n : Nat} {x y : Nat → Nat → Int32} {o : Nat → Int64} {th : Int32} {i : Nat} (C0 : lwC p l s m c9 b0 L xs D cI cA cL ad am) (S0 : lwS s D cI cA cL ad am K n x y o th H) (hK30 : K < 2 ^ 30) (hroom : cells + 1 ≤ room_1.cells ∧ slots + 6 ≤ room_1.slots) (hi : i + 4 < L) (hl : lv_has ls 7 [(0, .ref b0), (1, .ref (ad 0)), (2, .ref (am 0)), (3, .ref (ad 46)), (4, .int (nI i))]) (b : Int32) (hbk : bookB b = false) (e1 : xs (i + 1) = b) (kk : ∀ (K' n' : Nat) (x' y' : Nat → Nat → Int32) (o' : Nat → Int64) (th' : Int32) (H' : Heap) (ls' : Array Slot), K' ≤ K + 216 → lwS s D cI cA cL ad am K' n' x' y' o' th' H' → lv_has ls' 7 [(0, .ref b0), (1, .ref (ad 0)), (2, .ref (am 0)), (3, .ref (ad 46)), (4, .int (nI i))] → W p l e room_1 s m #[Value.ref b0] below meth c9 H' [] (cells + 1) (slots + 6) Q (F0 m 1441 ls' [])) : W p l e room_1 s m #[Value.ref b0] below meth c9 H [] cells slots Q (F0 m 383 ls []) := by
  obtain ⟨hx, hb, hF, hK, hDo, hDm, hdis, hT, hXF, hC, hlt, hX, hbl, hL⟩ := C0
  obtain ⟨hPo, hPm, hS, hR⟩ := S0
  have hn9 : n ≤ 24 := hR.n24
  have hn : n ≤ 24 := hn9
  have hts := hF.2.2.2.2
  have hKm := hK.sub (tys' := [(cI, .int), (cA, .array .int)]) [0, 1] rfl
  have hAo : ∀ q, wA ad 47 q → s.heap.size ≤ q := fun q ⟨k, hk, eq⟩ => by rw [eq]; exact hDo.2 k hk
  have hAm : ∀ q, wA am 8 q → s.heap.size ≤ q := fun q ⟨k, hk, eq⟩ => by rw [eq]; exact hDm.2 k hk
  refine lv_aload_n hx hb dL_law_383 rfl (lv_at hl 1 rfl) ?_
  refine lv_aload_n hx hb dL_law_384 rfl (lv_at hl 0 rfl) ?_
  refine lv_iload hx hb dL_law_385 (lv_at hl 4 rfl) ?_
  refine lv_iconst (v := nI 1) hx hb dL_law_387 (by decide) ?_
  refine r_addN (r := i + 1) hx hb dL_law_388 rfl ?_
  refine r_sld hx hb hX hbl hL hS (i := i + 1) (by omega) e1 dL_law_389 ?_
  refine lv_aload_n hx hb dL_law_390 rfl (lv_at hl 3 rfl) ?_
  refine k_L (vx_runSW (As := [.ref (ad 0), .int b, .ref (ad 46)]) (rest := []) hF (w_sync_Ta l D cI cA ad n x b cL o hlt hbk) (vx_cwSW 3 hts gL_law_L_sync rfl rfl rfl (by decide +kernel) ⟨(Nat.le_of_ble_eq_true rfl), (Nat.le_of_ble_eq_true rfl)⟩) (lw_pre hK hDo hT hXF hC hPo hS) rfl rfl hl.1 rfl (lv_room (Nat.le_of_ble_eq_true rfl)) dL_law_391 hroom) hAo (fun H1 hP1 hz hk9 => ?_)
  have hPm := lw_keep (fun j hj ⟨k, hk, eq⟩ => hdis k j hk hj eq.symm) hPm hk9
  have hS := lw_S hAo hS hz hk9
  refine lv_istore (lv' := [(5, .int (nI 1)), (0, .ref b0), (1, .ref (ad 0)), (2, .ref (am 0)), (3, .ref (ad 46)), (4, .int (nI i))]) hx hb dL_law_394 hl (by decide) rfl (fun ls hl => ?_)
  refine lv_aload_n hx hb dL_law_396 rfl (lv_at hl 3 rfl) ?_
  refine lv_aload_n hx hb dL_law_397 rfl (lv_at hl 1 rfl) ?_
  refine lv_iload hx hb dL_law_398 (lv_at hl 5 rfl) ?_
  refine lv_iconst (v := nI 1) hx hb dL_law_400 (by decide) ?_
  refine r_addN (r := i + 1) hx hb dL_law_401 rfl ?_
  refine r_sld hx hb hX hbl hL hS (i := i + 1) (by omega) e1 dL_law_402 ?_
  refine k_M (va_runV (As := [.int b]) (rest := []) hF (m_sync_1 l D cI cA am th n y b hbk) (cwV 1 hts gL_law_X4_sync rfl rfl rfl (by decide +kernel) ⟨(Nat.le_of_ble_eq_true rfl), (Nat.le_of_ble_eq_true rfl)⟩) (k_pre hPm hKm hDm hT (k := 0) (by decide) mF_0 rfl) rfl rfl hl.1 rfl (lv_room (Nat.le_of_ble_eq_true rfl)) dL_law_403 ⟨hroom.1, hroom.2⟩) hAm (fun H2 hPm hz hk9 => ?_)
  have hPo := lw_keep (fun j hj ⟨k, hk, eq⟩ => hdis j k hj hk eq) hP1 hk9
  have hS := lw_S hAm hS hz hk9
  refine lv_istore (lv' := [(6, .int (nI 0)), (5, .int (nI 1)), (0, .ref b0), (1, .ref (ad 0)), (2, .ref (am 0)), (3, .ref (ad 46)), (4, .int (nI i))]) hx hb dL_law_406 hl (by decide) rfl (fun ls hl => ?_)
  refine lv_aload_n hx hb dL_law_408 rfl (lv_at hl 4 rfl) ?_
  refine k_Ri (va_runV (As := []) (rest := []) hF (c_X4_thrown l D cI cA am _ _ _) (cwV 0 hts gL_law_X4_thrown rfl rfl rfl (by decide +kernel) ⟨(Nat.le_of_ble_eq_true rfl), (Nat.le_of_ble_eq_true rfl)⟩) (k_pre hPm hKm hDm hT (k := 0) (by decide) mF_0 rfl) rfl rfl hl.1 rfl (lv_room (Nat.le_of_ble_eq_true rfl)) dL_law_409 ⟨hroom.1, hroom.2⟩) ?_
  refine lv_iload hx hb dL_law_412 (lv_at hl 1 rfl) ?_
  refine r_ceqN (tgt := 419) hx hb (by decide) (by decide) dL_law_414 (by decide) (fun _ => ?_) (fun h => absurd rfl h)
  refine lv_iload hx hb dL_law_419 (lv_at hl 1 rfl) ?_
  refine r_ifneN (a := 1) (tgt := 436) hx hb (by decide) dL_law_421 (by decide) (fun _ => ?_) (fun h => absurd h (by decide))
  refine lv_goto (tgt := 1441) hx hb dL_law_436 (by decide) ?_
  exact kk _ _ _ _ _ _ _ _ (by omega) ⟨hPo, hPm, hS, hR⟩ (lv_sub hl [2, 3, 4, 5, 6] rfl)
