set_option maxHeartbeats 4000000 in
set_option maxRecDepth 100000 in
theorem z_edit_a {p : Program} {l : Launch} {e : Env} {s : State} {m : MethodId} {below : List Frame} {meth : Method} {c9 : Code} {H : Heap} {cells slots : Nat} {Q : State → Prop} {ls : Array Slot} {D : va_G} {b0 L : Nat} {xs : Nat → Int32} {cI cA cL : ClassId} {ad am : Nat → Nat} {K n : Nat} {x y : Nat → Nat → Int32} {o : Nat → Int64} {th : Int32} {i : Nat} (C0 : lwC p l s m c9 b0 L xs D cI cA cL ad am) (S0 : lwS s D cI cA cL ad am K n x y o th H) (hK30 : K < 2 ^ 30) (hroom : cells + 1 ≤ room_1.cells ∧ slots + 6 ≤ room_1.slots) (hi : i + 4 < L) (hl : lv_has ls 7 [(0, .ref b0), (1, .ref (ad 0)), (2, .ref (am 0)), (3, .ref (ad 46)), (4, .int (nI i))]) (c : Nat) (k : Nat) (w : Nat) (hc : c < n) (hk : k < 2) (hw : w < 30) (hsh : hasB (orF (x 9 c) (x (k + 16)) n) w = true) (e1 : xs (i + 1) = nI c) (e2 : xs (i + 2) = nI k) (e3 : xs (i + 3) = nI w) (kk : ∀ (K' n' : Nat) (x' y' : Nat → Nat → Int32) (o' : Nat → Int64) (th' : Int32) (H' : Heap) (ls' : Array Slot), K' ≤ K + 216 → lwS s D cI cA cL ad am K' n' x' y' o' th' H' → lv_has ls' 7 [(0, .ref b0), (1, .ref (ad 0)), (2, .ref (am 0)), (3, .ref (ad 46)), (4, .int (nI i))] → W p l e room_1 s m #[Value.ref b0] below meth c9 H' [] (cells + 1) (slots + 6) Q (F0 m 1441 ls' [])) : W p l e room_1 s m #[Value.ref b0] below meth c9 H [] cells slots Q (F0 m 1128 ls []) := by
  obtain ⟨hx, hb, hF, hK, hDo, hDm, hdis, hT, hXF, hC, hlt, hX, hbl, hL⟩ := C0
  obtain ⟨hPo, hPm, hS, hR⟩ := S0
  have hn9 : n ≤ 24 := hR.n24
  have hn : n ≤ 24 := hn9
  have hts := hF.2.2.2.2
  have hKm := hK.sub (tys' := [(cI, .int), (cA, .array .int)]) [0, 1] rfl
  have hAo : ∀ q, wA ad 47 q → s.heap.size ≤ q := fun q ⟨k, hk, eq⟩ => by rw [eq]; exact hDo.2 k hk
  have hAm : ∀ q, wA am 8 q → s.heap.size ≤ q := fun q ⟨k, hk, eq⟩ => by rw [eq]; exact hDm.2 k hk
  refine lv_aload_n hx hb dL_law_1128 rfl (lv_at hl 1 rfl) ?_
  refine lv_aload_n hx hb dL_law_1129 rfl (lv_at hl 0 rfl) ?_
  refine lv_iload hx hb dL_law_1130 (lv_at hl 4 rfl) ?_
  refine lv_iconst (v := nI 1) hx hb dL_law_1132 (by decide) ?_
  refine r_addN (r := i + 1) hx hb dL_law_1133 rfl ?_
  refine r_sld hx hb hX hbl hL hS (i := i + 1) (by omega) e1 dL_law_1134 ?_
  refine lv_aload_n hx hb dL_law_1135 rfl (lv_at hl 0 rfl) ?_
  refine lv_iload hx hb dL_law_1136 (lv_at hl 4 rfl) ?_
  refine lv_iconst (v := nI 2) hx hb dL_law_1138 (by decide) ?_
  refine r_addN (r := i + 2) hx hb dL_law_1139 rfl ?_
  refine r_sld hx hb hX hbl hL hS (i := i + 2) (by omega) e2 dL_law_1140 ?_
  refine lv_aload_n hx hb dL_law_1141 rfl (lv_at hl 0 rfl) ?_
  refine lv_iload hx hb dL_law_1142 (lv_at hl 4 rfl) ?_
  refine lv_iconst (v := nI 3) hx hb dL_law_1144 (by decide) ?_
  refine r_addN (r := i + 3) hx hb dL_law_1145 rfl ?_
  refine r_sld hx hb hX hbl hL hS (i := i + 3) (by omega) e3 dL_law_1146 ?_
  refine lv_aload_n hx hb dL_law_1147 rfl (lv_at hl 3 rfl) ?_
  refine k_L (vx_runSW (As := [.ref (ad 0), .int (nI c), .int (nI k), .int (nI w), .ref (ad 46)]) (rest := []) hF (w_edit_a l D cI cA ad n x c k w cL o hc hn hk hw hsh) (vx_cwSW 5 hts gL_law_L_edit rfl rfl rfl (by decide +kernel) ⟨(Nat.le_of_ble_eq_true rfl), (Nat.le_of_ble_eq_true rfl)⟩) (lw_pre hK hDo hT hXF hC hPo hS) rfl rfl hl.1 rfl (lv_room (Nat.le_of_ble_eq_true rfl)) dL_law_1148 hroom) hAo (fun H1 hP1 hz hk9 => ?_)
  have hPm := lw_keep (fun j hj ⟨k, hk, eq⟩ => hdis k j hk hj eq.symm) hPm hk9
  have hS := lw_S hAo hS hz hk9
  refine lv_istore (lv' := [(5, .int (nI 0)), (0, .ref b0), (1, .ref (ad 0)), (2, .ref (am 0)), (3, .ref (ad 46)), (4, .int (nI i))]) hx hb dL_law_1151 hl (by decide) rfl (fun ls hl => ?_)
  refine lv_aload_n hx hb dL_law_1153 rfl (lv_at hl 3 rfl) ?_
  refine lv_aload_n hx hb dL_law_1154 rfl (lv_at hl 1 rfl) ?_
  refine lv_iload hx hb dL_law_1155 (lv_at hl 5 rfl) ?_
  refine lv_iconst (v := nI 1) hx hb dL_law_1157 (by decide) ?_
  refine r_addN (r := i + 1) hx hb dL_law_1158 rfl ?_
  refine r_sld hx hb hX hbl hL hS (i := i + 1) (by omega) e1 dL_law_1159 ?_
  refine lv_aload_n hx hb dL_law_1160 rfl (lv_at hl 1 rfl) ?_
  refine lv_iload hx hb dL_law_1161 (lv_at hl 5 rfl) ?_
  refine lv_iconst (v := nI 2) hx hb dL_law_1163 (by decide) ?_
  refine r_addN (r := i + 2) hx hb dL_law_1164 rfl ?_
  refine r_sld hx hb hX hbl hL hS (i := i + 2) (by omega) e2 dL_law_1165 ?_
  refine lv_aload_n hx hb dL_law_1166 rfl (lv_at hl 1 rfl) ?_
  refine lv_iload hx hb dL_law_1167 (lv_at hl 5 rfl) ?_
  refine lv_iconst (v := nI 3) hx hb dL_law_1169 (by decide) ?_
  refine r_addN (r := i + 3) hx hb dL_law_1170 rfl ?_
  refine r_sld hx hb hX hbl hL hS (i := i + 3) (by omega) e3 dL_law_1171 ?_
  refine k_M (va_runV (As := [.int (nI c), .int (nI k), .int (nI w)]) (rest := []) hF (m_edit_a l D cI cA am th n y c k w (x 9) hc hn9 hk hw hR.grp (by rw [← hR.orE hk]; exact hsh)) (cwV 3 hts gL_law_X4_edit rfl rfl rfl (by decide +kernel) ⟨(Nat.le_of_ble_eq_true rfl), (Nat.le_of_ble_eq_true rfl)⟩) (k_pre hPm hKm hDm hT (k := 0) (by decide) mF_0 rfl) rfl rfl hl.1 rfl (lv_room (Nat.le_of_ble_eq_true rfl)) dL_law_1172 ⟨hroom.1, hroom.2⟩) hAm (fun H2 hPm hz hk9 => ?_)
  have hPo := lw_keep (fun j hj ⟨k, hk, eq⟩ => hdis j k hj hk eq) hP1 hk9
  have hS := lw_S hAm hS hz hk9
  refine r_topi (show _ = tkC x (x 9 c) k w n from (Rel_tk hR hk n (Nat.le_refl _)).2.symm) ?_
  refine lv_istore (lv' := [(6, .int (tkC x (x 9 c) k w n)), (5, .int (nI 0)), (0, .ref b0), (1, .ref (ad 0)), (2, .ref (am 0)), (3, .ref (ad 46)), (4, .int (nI i))]) hx hb dL_law_1175 hl (by decide) rfl (fun ls hl => ?_)
  refine lv_aload_n hx hb dL_law_1177 rfl (lv_at hl 4 rfl) ?_
  refine k_Ri (va_runV (As := []) (rest := []) hF (c_X4_thrown l D cI cA am _ _ _) (cwV 0 hts gL_law_X4_thrown rfl rfl rfl (by decide +kernel) ⟨(Nat.le_of_ble_eq_true rfl), (Nat.le_of_ble_eq_true rfl)⟩) (k_pre hPm hKm hDm hT (k := 0) (by decide) mF_0 rfl) rfl rfl hl.1 rfl (lv_room (Nat.le_of_ble_eq_true rfl)) dL_law_1178 ⟨hroom.1, hroom.2⟩) ?_
  refine lv_iload hx hb dL_law_1181 (lv_at hl 1 rfl) ?_
  refine r_ceqN (tgt := 1188) hx hb (by decide) (by decide) dL_law_1183 (by decide) (fun _ => ?_) (fun h => absurd rfl h)
  refine lv_iload hx hb dL_law_1188 (lv_at hl 1 rfl) ?_
  refine r_ifneN (a := 0) (tgt := 1205) hx hb (by decide) dL_law_1190 (by decide) (fun h => absurd rfl h) (fun _ => ?_)
  refine lv_aload_n hx hb dL_law_1193 rfl (lv_at hl 5 rfl) ?_
  refine lv_iconst (v := nI 0) hx hb dL_law_1194 (by decide) ?_
  refine va_lald hx hb hK hPo 46 2 (wl_at (show 46 < 47 by decide)) rfl (vp_in_nI (by decide) (by decide)) dL_law_1195 ?_
  rw [oW_0 (w := (tkC x (x 9 c) k w n).toInt64)]
  refine lv_iload hx hb dL_law_1196 (lv_at hl 0 rfl) ?_
  refine lv_i2l hx hb dL_law_1198 rfl ?_
  refine r_lcmpE hx hb dL_law_1199 ?_
  refine r_ifeqN (a := 0) (tgt := 1205) hx hb (by decide) dL_law_1200 (by decide) (fun _ => ?_) (fun h => absurd rfl h)
  refine lv_goto (tgt := 1441) hx hb dL_law_1205 (by decide) ?_
  exact kk _ _ _ _ _ _ _ _ (by omega) ⟨hPo, hPm, hS, (Rel_tk hR hk n (Nat.le_refl _)).1⟩ (lv_sub hl [2, 3, 4, 5, 6] rfl)
set_option maxHeartbeats 4000000 in
set_option maxRecDepth 100000 in
theorem z_edit_b {p : Program} {l : Launch} {e : Env} {s : State} {m : MethodId} {below : List Frame} {meth : Method} {c9 : Code} {H : Heap} {cells slots : Nat} {Q : State → Prop} {ls : Array Slot} {D : va_G} {b0 L : Nat} {xs : Nat → Int32} {cI cA cL : ClassId} {ad am : Nat → Nat} {K n : Nat} {x y : Nat → Nat → Int32} {o : Nat → Int64} {th : Int32} {i : Nat} (C0 : lwC p l s m c9 b0 L xs D cI cA cL ad am) (S0 : lwS s D cI cA cL ad am K n x y o th H) (hK30 : K < 2 ^ 30) (hroom : cells + 1 ≤ room_1.cells ∧ slots + 6 ≤ room_1.slots) (hi : i + 4 < L) (hl : lv_has ls 7 [(0, .ref b0), (1, .ref (ad 0)), (2, .ref (am 0)), (3, .ref (ad 46)), (4, .int (nI i))]) (c : Nat) (k : Nat) (w : Nat) (hc : c < n) (hk : k < 2) (hw : w < 30) (hsh : hasB (orF (x 9 c) (x (k + 16)) n) w = false) (e1 : xs (i + 1) = nI c) (e2 : xs (i + 2) = nI k) (e3 : xs (i + 3) = nI w) (kk : ∀ (K' n' : Nat) (x' y' : Nat → Nat → Int32) (o' : Nat → Int64) (th' : Int32) (H' : Heap) (ls' : Array Slot), K' ≤ K + 216 → lwS s D cI cA cL ad am K' n' x' y' o' th' H' → lv_has ls' 7 [(0, .ref b0), (1, .ref (ad 0)), (2, .ref (am 0)), (3, .ref (ad 46)), (4, .int (nI i))] → W p l e room_1 s m #[Value.ref b0] below meth c9 H' [] (cells + 1) (slots + 6) Q (F0 m 1441 ls' [])) : W p l e room_1 s m #[Value.ref b0] below meth c9 H [] cells slots Q (F0 m 1128 ls []) := by
  obtain ⟨hx, hb, hF, hK, hDo, hDm, hdis, hT, hXF, hC, hlt, hX, hbl, hL⟩ := C0
  obtain ⟨hPo, hPm, hS, hR⟩ := S0
  have hn9 : n ≤ 24 := hR.n24
  have hn : n ≤ 24 := hn9
  have hts := hF.2.2.2.2
  have hKm := hK.sub (tys' := [(cI, .int), (cA, .array .int)]) [0, 1] rfl
  have hAo : ∀ q, wA ad 47 q → s.heap.size ≤ q := fun q ⟨k, hk, eq⟩ => by rw [eq]; exact hDo.2 k hk
  have hAm : ∀ q, wA am 8 q → s.heap.size ≤ q := fun q ⟨k, hk, eq⟩ => by rw [eq]; exact hDm.2 k hk
  refine lv_aload_n hx hb dL_law_1128 rfl (lv_at hl 1 rfl) ?_
  refine lv_aload_n hx hb dL_law_1129 rfl (lv_at hl 0 rfl) ?_
  refine lv_iload hx hb dL_law_1130 (lv_at hl 4 rfl) ?_
  refine lv_iconst (v := nI 1) hx hb dL_law_1132 (by decide) ?_
  refine r_addN (r := i + 1) hx hb dL_law_1133 rfl ?_
  refine r_sld hx hb hX hbl hL hS (i := i + 1) (by omega) e1 dL_law_1134 ?_
  refine lv_aload_n hx hb dL_law_1135 rfl (lv_at hl 0 rfl) ?_
  refine lv_iload hx hb dL_law_1136 (lv_at hl 4 rfl) ?_
  refine lv_iconst (v := nI 2) hx hb dL_law_1138 (by decide) ?_
  refine r_addN (r := i + 2) hx hb dL_law_1139 rfl ?_
  refine r_sld hx hb hX hbl hL hS (i := i + 2) (by omega) e2 dL_law_1140 ?_
  refine lv_aload_n hx hb dL_law_1141 rfl (lv_at hl 0 rfl) ?_
  refine lv_iload hx hb dL_law_1142 (lv_at hl 4 rfl) ?_
  refine lv_iconst (v := nI 3) hx hb dL_law_1144 (by decide) ?_
  refine r_addN (r := i + 3) hx hb dL_law_1145 rfl ?_
  refine r_sld hx hb hX hbl hL hS (i := i + 3) (by omega) e3 dL_law_1146 ?_
  refine lv_aload_n hx hb dL_law_1147 rfl (lv_at hl 3 rfl) ?_
  refine k_L (vx_runSW (As := [.ref (ad 0), .int (nI c), .int (nI k), .int (nI w), .ref (ad 46)]) (rest := []) hF (w_edit_b l D cI cA ad n x c k w cL o hc hn hk hw hsh) (vx_cwSW 5 hts gL_law_L_edit rfl rfl rfl (by decide +kernel) ⟨(Nat.le_of_ble_eq_true rfl), (Nat.le_of_ble_eq_true rfl)⟩) (lw_pre hK hDo hT hXF hC hPo hS) rfl rfl hl.1 rfl (lv_room (Nat.le_of_ble_eq_true rfl)) dL_law_1148 hroom) hAo (fun H1 hP1 hz hk9 => ?_)
  have hPm := lw_keep (fun j hj ⟨k, hk, eq⟩ => hdis k j hk hj eq.symm) hPm hk9
  have hS := lw_S hAo hS hz hk9
  refine lv_istore (lv' := [(5, .int (nI 0)), (0, .ref b0), (1, .ref (ad 0)), (2, .ref (am 0)), (3, .ref (ad 46)), (4, .int (nI i))]) hx hb dL_law_1151 hl (by decide) rfl (fun ls hl => ?_)
  refine lv_aload_n hx hb dL_law_1153 rfl (lv_at hl 3 rfl) ?_
  refine lv_aload_n hx hb dL_law_1154 rfl (lv_at hl 1 rfl) ?_
  refine lv_iload hx hb dL_law_1155 (lv_at hl 5 rfl) ?_
  refine lv_iconst (v := nI 1) hx hb dL_law_1157 (by decide) ?_
  refine r_addN (r := i + 1) hx hb dL_law_1158 rfl ?_
  refine r_sld hx hb hX hbl hL hS (i := i + 1) (by omega) e1 dL_law_1159 ?_
  refine lv_aload_n hx hb dL_law_1160 rfl (lv_at hl 1 rfl) ?_
  refine lv_iload hx hb dL_law_1161 (lv_at hl 5 rfl) ?_
  refine lv_iconst (v := nI 2) hx hb dL_law_1163 (by decide) ?_
  refine r_addN (r := i + 2) hx hb dL_law_1164 rfl ?_
  refine r_sld hx hb hX hbl hL hS (i := i + 2) (by omega) e2 dL_law_1165 ?_
  refine lv_aload_n hx hb dL_law_1166 rfl (lv_at hl 1 rfl) ?_
  refine lv_iload hx hb dL_law_1167 (lv_at hl 5 rfl) ?_
  refine lv_iconst (v := nI 3) hx hb dL_law_1169 (by decide) ?_
  refine r_addN (r := i + 3) hx hb dL_law_1170 rfl ?_
  refine r_sld hx hb hX hbl hL hS (i := i + 3) (by omega) e3 dL_law_1171 ?_
  refine k_M (va_runV (As := [.int (nI c), .int (nI k), .int (nI w)]) (rest := []) hF (m_edit_b l D cI cA am th n y c k w (x 9) hc hn9 hk hw hR.grp (by rw [← hR.orE hk]; exact hsh)) (cwV 3 hts gL_law_X4_edit rfl rfl rfl (by decide +kernel) ⟨(Nat.le_of_ble_eq_true rfl), (Nat.le_of_ble_eq_true rfl)⟩) (k_pre hPm hKm hDm hT (k := 0) (by decide) mF_0 rfl) rfl rfl hl.1 rfl (lv_room (Nat.le_of_ble_eq_true rfl)) dL_law_1172 ⟨hroom.1, hroom.2⟩) hAm (fun H2 hPm hz hk9 => ?_)
  have hPo := lw_keep (fun j hj ⟨k, hk, eq⟩ => hdis j k hj hk eq) hP1 hk9
  have hS := lw_S hAm hS hz hk9
  refine r_topi (show _ = bit (prefF (x 4) (x 9 c) c n) from by rw [hR.pref hc]) ?_
  refine lv_istore (lv' := [(6, .int (bit (prefF (x 4) (x 9 c) c n))), (5, .int (nI 0)), (0, .ref b0), (1, .ref (ad 0)), (2, .ref (am 0)), (3, .ref (ad 46)), (4, .int (nI i))]) hx hb dL_law_1175 hl (by decide) rfl (fun ls hl => ?_)
  refine lv_aload_n hx hb dL_law_1177 rfl (lv_at hl 4 rfl) ?_
  refine k_Ri (va_runV (As := []) (rest := []) hF (c_X4_thrown l D cI cA am _ _ _) (cwV 0 hts gL_law_X4_thrown rfl rfl rfl (by decide +kernel) ⟨(Nat.le_of_ble_eq_true rfl), (Nat.le_of_ble_eq_true rfl)⟩) (k_pre hPm hKm hDm hT (k := 0) (by decide) mF_0 rfl) rfl rfl hl.1 rfl (lv_room (Nat.le_of_ble_eq_true rfl)) dL_law_1178 ⟨hroom.1, hroom.2⟩) ?_
  refine lv_iload hx hb dL_law_1181 (lv_at hl 1 rfl) ?_
  refine r_ceqN (tgt := 1188) hx hb (by decide) (by decide) dL_law_1183 (by decide) (fun _ => ?_) (fun h => absurd rfl h)
  refine lv_iload hx hb dL_law_1188 (lv_at hl 1 rfl) ?_
  refine r_ifneN (a := 0) (tgt := 1205) hx hb (by decide) dL_law_1190 (by decide) (fun h => absurd rfl h) (fun _ => ?_)
  refine lv_aload_n hx hb dL_law_1193 rfl (lv_at hl 5 rfl) ?_
  refine lv_iconst (v := nI 0) hx hb dL_law_1194 (by decide) ?_
  refine va_lald hx hb hK hPo 46 2 (wl_at (show 46 < 47 by decide)) rfl (vp_in_nI (by decide) (by decide)) dL_law_1195 ?_
  rw [oW_0 (w := (bit (prefF (x 4) (x 9 c) c n)).toInt64)]
  refine lv_iload hx hb dL_law_1196 (lv_at hl 0 rfl) ?_
  refine lv_i2l hx hb dL_law_1198 rfl ?_
  refine r_lcmpE hx hb dL_law_1199 ?_
  refine r_ifeqN (a := 0) (tgt := 1205) hx hb (by decide) dL_law_1200 (by decide) (fun _ => ?_) (fun h => absurd rfl h)
  refine lv_goto (tgt := 1441) hx hb dL_law_1205 (by decide) ?_
  exact kk _ _ _ _ _ _ _ _ (by omega) ⟨hPo, hPm, hS, Rel_ed hR hc hk hw⟩ (lv_sub hl [2, 3, 4, 5, 6] rfl)
set_option maxHeartbeats 4000000 in
set_option maxRecDepth 100000 in
theorem z_edit_Ta {p : Program} {l : Launch} {e : Env} {s : State} {m : MethodId} {below : List Frame} {meth : Method} {c9 : Code} {H : Heap} {cells slots : Nat} {Q : State → Prop} {ls : Array Slot} {D : va_G} {b0 L : Nat} {xs : Nat → Int32} {cI cA cL : ClassId} {ad am : Nat → Nat} {K n : Nat} {x y : Nat → Nat → Int32} {o : Nat → Int64} {th : Int32} {i : Nat} (C0 : lwC p l s m c9 b0 L xs D cI cA cL ad am) (S0 : lwS s D cI cA cL ad am K n x y o th H) (hK30 : K < 2 ^ 30) (hroom : cells + 1 ≤ room_1.cells ∧ slots + 6 ≤ room_1.slots) (hi : i + 4 < L) (hl : lv_has ls 7 [(0, .ref b0), (1, .ref (ad 0)), (2, .ref (am 0)), (3, .ref (ad 46)), (4, .int (nI i))]) (a : Int32) (k : Int32) (w : Int32) (hca : cardB n a = false) (e1 : xs (i + 1) = a) (e2 : xs (i + 2) = k) (e3 : xs (i + 3) = w) (kk : ∀ (K' n' : Nat) (x' y' : Nat → Nat → Int32) (o' : Nat → Int64) (th' : Int32) (H' : Heap) (ls' : Array Slot), K' ≤ K + 216 → lwS s D cI cA cL ad am K' n' x' y' o' th' H' → lv_has ls' 7 [(0, .ref b0), (1, .ref (ad 0)), (2, .ref (am 0)), (3, .ref (ad 46)), (4, .int (nI i))] → W p l e room_1 s m #[Value.ref b0] below meth c9 H' [] (cells + 1) (slots + 6) Q (F0 m 1441 ls' [])) : W p l e room_1 s m #[Value.ref b0] below meth c9 H [] cells slots Q (F0 m 1128 ls []) := by
  obtain ⟨hx, hb, hF, hK, hDo, hDm, hdis, hT, hXF, hC, hlt, hX, hbl, hL⟩ := C0
  obtain ⟨hPo, hPm, hS, hR⟩ := S0
  have hn9 : n ≤ 24 := hR.n24
  have hn : n ≤ 24 := hn9
  have hts := hF.2.2.2.2
  have hKm := hK.sub (tys' := [(cI, .int), (cA, .array .int)]) [0, 1] rfl
  have hAo : ∀ q, wA ad 47 q → s.heap.size ≤ q := fun q ⟨k, hk, eq⟩ => by rw [eq]; exact hDo.2 k hk
  have hAm : ∀ q, wA am 8 q → s.heap.size ≤ q := fun q ⟨k, hk, eq⟩ => by rw [eq]; exact hDm.2 k hk
  refine lv_aload_n hx hb dL_law_1128 rfl (lv_at hl 1 rfl) ?_
  refine lv_aload_n hx hb dL_law_1129 rfl (lv_at hl 0 rfl) ?_
  refine lv_iload hx hb dL_law_1130 (lv_at hl 4 rfl) ?_
  refine lv_iconst (v := nI 1) hx hb dL_law_1132 (by decide) ?_
  refine r_addN (r := i + 1) hx hb dL_law_1133 rfl ?_
  refine r_sld hx hb hX hbl hL hS (i := i + 1) (by omega) e1 dL_law_1134 ?_
  refine lv_aload_n hx hb dL_law_1135 rfl (lv_at hl 0 rfl) ?_
  refine lv_iload hx hb dL_law_1136 (lv_at hl 4 rfl) ?_
  refine lv_iconst (v := nI 2) hx hb dL_law_1138 (by decide) ?_
  refine r_addN (r := i + 2) hx hb dL_law_1139 rfl ?_
  refine r_sld hx hb hX hbl hL hS (i := i + 2) (by omega) e2 dL_law_1140 ?_
  refine lv_aload_n hx hb dL_law_1141 rfl (lv_at hl 0 rfl) ?_
  refine lv_iload hx hb dL_law_1142 (lv_at hl 4 rfl) ?_
  refine lv_iconst (v := nI 3) hx hb dL_law_1144 (by decide) ?_
  refine r_addN (r := i + 3) hx hb dL_law_1145 rfl ?_
  refine r_sld hx hb hX hbl hL hS (i := i + 3) (by omega) e3 dL_law_1146 ?_
  refine lv_aload_n hx hb dL_law_1147 rfl (lv_at hl 3 rfl) ?_
  refine k_L (vx_runSW (As := [.ref (ad 0), .int a, .int k, .int w, .ref (ad 46)]) (rest := []) hF (w_edit_Ta l D cI cA ad n x a k w cL o hlt hca) (vx_cwSW 5 hts gL_law_L_edit rfl rfl rfl (by decide +kernel) ⟨(Nat.le_of_ble_eq_true rfl), (Nat.le_of_ble_eq_true rfl)⟩) (lw_pre hK hDo hT hXF hC hPo hS) rfl rfl hl.1 rfl (lv_room (Nat.le_of_ble_eq_true rfl)) dL_law_1148 hroom) hAo (fun H1 hP1 hz hk9 => ?_)
  have hPm := lw_keep (fun j hj ⟨k, hk, eq⟩ => hdis k j hk hj eq.symm) hPm hk9
  have hS := lw_S hAo hS hz hk9
  refine lv_istore (lv' := [(5, .int (nI 1)), (0, .ref b0), (1, .ref (ad 0)), (2, .ref (am 0)), (3, .ref (ad 46)), (4, .int (nI i))]) hx hb dL_law_1151 hl (by decide) rfl (fun ls hl => ?_)
  refine lv_aload_n hx hb dL_law_1153 rfl (lv_at hl 3 rfl) ?_
  refine lv_aload_n hx hb dL_law_1154 rfl (lv_at hl 1 rfl) ?_
  refine lv_iload hx hb dL_law_1155 (lv_at hl 5 rfl) ?_
  refine lv_iconst (v := nI 1) hx hb dL_law_1157 (by decide) ?_
  refine r_addN (r := i + 1) hx hb dL_law_1158 rfl ?_
  refine r_sld hx hb hX hbl hL hS (i := i + 1) (by omega) e1 dL_law_1159 ?_
  refine lv_aload_n hx hb dL_law_1160 rfl (lv_at hl 1 rfl) ?_
  refine lv_iload hx hb dL_law_1161 (lv_at hl 5 rfl) ?_
  refine lv_iconst (v := nI 2) hx hb dL_law_1163 (by decide) ?_
  refine r_addN (r := i + 2) hx hb dL_law_1164 rfl ?_
  refine r_sld hx hb hX hbl hL hS (i := i + 2) (by omega) e2 dL_law_1165 ?_
  refine lv_aload_n hx hb dL_law_1166 rfl (lv_at hl 1 rfl) ?_
  refine lv_iload hx hb dL_law_1167 (lv_at hl 5 rfl) ?_
  refine lv_iconst (v := nI 3) hx hb dL_law_1169 (by decide) ?_
  refine r_addN (r := i + 3) hx hb dL_law_1170 rfl ?_
  refine r_sld hx hb hX hbl hL hS (i := i + 3) (by omega) e3 dL_law_1171 ?_
  refine k_M (va_runV (As := [.int a, .int k, .int w]) (rest := []) hF (m_edit_1 l D cI cA am th n y a k w hca hn9) (cwV 3 hts gL_law_X4_edit rfl rfl rfl (by decide +kernel) ⟨(Nat.le_of_ble_eq_true rfl), (Nat.le_of_ble_eq_true rfl)⟩) (k_pre hPm hKm hDm hT (k := 0) (by decide) mF_0 rfl) rfl rfl hl.1 rfl (lv_room (Nat.le_of_ble_eq_true rfl)) dL_law_1172 ⟨hroom.1, hroom.2⟩) hAm (fun H2 hPm hz hk9 => ?_)
  have hPo := lw_keep (fun j hj ⟨k, hk, eq⟩ => hdis j k hj hk eq) hP1 hk9
  have hS := lw_S hAm hS hz hk9
  refine lv_istore (lv' := [(6, .int (nI 0)), (5, .int (nI 1)), (0, .ref b0), (1, .ref (ad 0)), (2, .ref (am 0)), (3, .ref (ad 46)), (4, .int (nI i))]) hx hb dL_law_1175 hl (by decide) rfl (fun ls hl => ?_)
  refine lv_aload_n hx hb dL_law_1177 rfl (lv_at hl 4 rfl) ?_
  refine k_Ri (va_runV (As := []) (rest := []) hF (c_X4_thrown l D cI cA am _ _ _) (cwV 0 hts gL_law_X4_thrown rfl rfl rfl (by decide +kernel) ⟨(Nat.le_of_ble_eq_true rfl), (Nat.le_of_ble_eq_true rfl)⟩) (k_pre hPm hKm hDm hT (k := 0) (by decide) mF_0 rfl) rfl rfl hl.1 rfl (lv_room (Nat.le_of_ble_eq_true rfl)) dL_law_1178 ⟨hroom.1, hroom.2⟩) ?_
  refine lv_iload hx hb dL_law_1181 (lv_at hl 1 rfl) ?_
  refine r_ceqN (tgt := 1188) hx hb (by decide) (by decide) dL_law_1183 (by decide) (fun _ => ?_) (fun h => absurd rfl h)
  refine lv_iload hx hb dL_law_1188 (lv_at hl 1 rfl) ?_
  refine r_ifneN (a := 1) (tgt := 1205) hx hb (by decide) dL_law_1190 (by decide) (fun _ => ?_) (fun h => absurd h (by decide))
  refine lv_goto (tgt := 1441) hx hb dL_law_1205 (by decide) ?_
  exact kk _ _ _ _ _ _ _ _ (by omega) ⟨hPo, hPm, hS, hR⟩ (lv_sub hl [2, 3, 4, 5, 6] rfl)
set_option maxHeartbeats 4000000 in
set_option maxRecDepth 100000 in
theorem z_edit_Tb {p : Program} {l : Launch} {e : Env} {s : State} {m : MethodId} {below : List Frame} {meth : Method} {c9 : Code} {H : Heap} {cells slots : Nat} {Q : State → Prop} {ls : Array Slot} {D : va_G} {b0 L : Nat} {xs : Nat → Int32} {cI cA cL : ClassId} {ad am : Nat → Nat} {K n : Nat} {x y : Nat → Nat → Int32} {o : Nat → Int64} {th : Int32} {i : Nat} (C0 : lwC p l s m c9 b0 L xs D cI cA cL ad am) (S0 : lwS s D cI cA cL ad am K n x y o th H) (hK30 : K < 2 ^ 30) (hroom : cells + 1 ≤ room_1.cells ∧ slots + 6 ≤ room_1.slots) (hi : i + 4 < L) (hl : lv_has ls 7 [(0, .ref b0), (1, .ref (ad 0)), (2, .ref (am 0)), (3, .ref (ad 46)), (4, .int (nI i))]) (c : Nat) (k : Int32) (w : Int32) (hc : c < n) (hbad : (kindB k && valueB w) = false) (e1 : xs (i + 1) = nI c) (e2 : xs (i + 2) = k) (e3 : xs (i + 3) = w) (kk : ∀ (K' n' : Nat) (x' y' : Nat → Nat → Int32) (o' : Nat → Int64) (th' : Int32) (H' : Heap) (ls' : Array Slot), K' ≤ K + 216 → lwS s D cI cA cL ad am K' n' x' y' o' th' H' → lv_has ls' 7 [(0, .ref b0), (1, .ref (ad 0)), (2, .ref (am 0)), (3, .ref (ad 46)), (4, .int (nI i))] → W p l e room_1 s m #[Value.ref b0] below meth c9 H' [] (cells + 1) (slots + 6) Q (F0 m 1441 ls' [])) : W p l e room_1 s m #[Value.ref b0] below meth c9 H [] cells slots Q (F0 m 1128 ls []) := by
  obtain ⟨hx, hb, hF, hK, hDo, hDm, hdis, hT, hXF, hC, hlt, hX, hbl, hL⟩ := C0
  obtain ⟨hPo, hPm, hS, hR⟩ := S0
  have hn9 : n ≤ 24 := hR.n24
  have hn : n ≤ 24 := hn9
  have hts := hF.2.2.2.2
  have hKm := hK.sub (tys' := [(cI, .int), (cA, .array .int)]) [0, 1] rfl
  have hAo : ∀ q, wA ad 47 q → s.heap.size ≤ q := fun q ⟨k, hk, eq⟩ => by rw [eq]; exact hDo.2 k hk
  have hAm : ∀ q, wA am 8 q → s.heap.size ≤ q := fun q ⟨k, hk, eq⟩ => by rw [eq]; exact hDm.2 k hk
  refine lv_aload_n hx hb dL_law_1128 rfl (lv_at hl 1 rfl) ?_
  refine lv_aload_n hx hb dL_law_1129 rfl (lv_at hl 0 rfl) ?_
  refine lv_iload hx hb dL_law_1130 (lv_at hl 4 rfl) ?_
  refine lv_iconst (v := nI 1) hx hb dL_law_1132 (by decide) ?_
  refine r_addN (r := i + 1) hx hb dL_law_1133 rfl ?_
  refine r_sld hx hb hX hbl hL hS (i := i + 1) (by omega) e1 dL_law_1134 ?_
  refine lv_aload_n hx hb dL_law_1135 rfl (lv_at hl 0 rfl) ?_
  refine lv_iload hx hb dL_law_1136 (lv_at hl 4 rfl) ?_
  refine lv_iconst (v := nI 2) hx hb dL_law_1138 (by decide) ?_
  refine r_addN (r := i + 2) hx hb dL_law_1139 rfl ?_
  refine r_sld hx hb hX hbl hL hS (i := i + 2) (by omega) e2 dL_law_1140 ?_
  refine lv_aload_n hx hb dL_law_1141 rfl (lv_at hl 0 rfl) ?_
  refine lv_iload hx hb dL_law_1142 (lv_at hl 4 rfl) ?_
  refine lv_iconst (v := nI 3) hx hb dL_law_1144 (by decide) ?_
  refine r_addN (r := i + 3) hx hb dL_law_1145 rfl ?_
  refine r_sld hx hb hX hbl hL hS (i := i + 3) (by omega) e3 dL_law_1146 ?_
  refine lv_aload_n hx hb dL_law_1147 rfl (lv_at hl 3 rfl) ?_
  refine k_L (vx_runSW (As := [.ref (ad 0), .int (nI c), .int k, .int w, .ref (ad 46)]) (rest := []) hF (w_edit_Tb l D cI cA ad n x c k w cL o hlt hc hn hbad) (vx_cwSW 5 hts gL_law_L_edit rfl rfl rfl (by decide +kernel) ⟨(Nat.le_of_ble_eq_true rfl), (Nat.le_of_ble_eq_true rfl)⟩) (lw_pre hK hDo hT hXF hC hPo hS) rfl rfl hl.1 rfl (lv_room (Nat.le_of_ble_eq_true rfl)) dL_law_1148 hroom) hAo (fun H1 hP1 hz hk9 => ?_)
  have hPm := lw_keep (fun j hj ⟨k, hk, eq⟩ => hdis k j hk hj eq.symm) hPm hk9
  have hS := lw_S hAo hS hz hk9
  refine lv_istore (lv' := [(5, .int (nI 2)), (0, .ref b0), (1, .ref (ad 0)), (2, .ref (am 0)), (3, .ref (ad 46)), (4, .int (nI i))]) hx hb dL_law_1151 hl (by decide) rfl (fun ls hl => ?_)
  refine lv_aload_n hx hb dL_law_1153 rfl (lv_at hl 3 rfl) ?_
  refine lv_aload_n hx hb dL_law_1154 rfl (lv_at hl 1 rfl) ?_
  refine lv_iload hx hb dL_law_1155 (lv_at hl 5 rfl) ?_
  refine lv_iconst (v := nI 1) hx hb dL_law_1157 (by decide) ?_
  refine r_addN (r := i + 1) hx hb dL_law_1158 rfl ?_
  refine r_sld hx hb hX hbl hL hS (i := i + 1) (by omega) e1 dL_law_1159 ?_
  refine lv_aload_n hx hb dL_law_1160 rfl (lv_at hl 1 rfl) ?_
  refine lv_iload hx hb dL_law_1161 (lv_at hl 5 rfl) ?_
  refine lv_iconst (v := nI 2) hx hb dL_law_1163 (by decide) ?_
  refine r_addN (r := i + 2) hx hb dL_law_1164 rfl ?_
  refine r_sld hx hb hX hbl hL hS (i := i + 2) (by omega) e2 dL_law_1165 ?_
  refine lv_aload_n hx hb dL_law_1166 rfl (lv_at hl 1 rfl) ?_
  refine lv_iload hx hb dL_law_1167 (lv_at hl 5 rfl) ?_
  refine lv_iconst (v := nI 3) hx hb dL_law_1169 (by decide) ?_
  refine r_addN (r := i + 3) hx hb dL_law_1170 rfl ?_
  refine r_sld hx hb hX hbl hL hS (i := i + 3) (by omega) e3 dL_law_1171 ?_
  refine k_M (va_runV (As := [.int (nI c), .int k, .int w]) (rest := []) hF (m_edit_2 l D cI cA am th n y c k w hc hn9 hbad) (cwV 3 hts gL_law_X4_edit rfl rfl rfl (by decide +kernel) ⟨(Nat.le_of_ble_eq_true rfl), (Nat.le_of_ble_eq_true rfl)⟩) (k_pre hPm hKm hDm hT (k := 0) (by decide) mF_0 rfl) rfl rfl hl.1 rfl (lv_room (Nat.le_of_ble_eq_true rfl)) dL_law_1172 ⟨hroom.1, hroom.2⟩) hAm (fun H2 hPm hz hk9 => ?_)
  have hPo := lw_keep (fun j hj ⟨k, hk, eq⟩ => hdis j k hj hk eq) hP1 hk9
  have hS := lw_S hAm hS hz hk9
  refine lv_istore (lv' := [(6, .int (nI 0)), (5, .int (nI 2)), (0, .ref b0), (1, .ref (ad 0)), (2, .ref (am 0)), (3, .ref (ad 46)), (4, .int (nI i))]) hx hb dL_law_1175 hl (by decide) rfl (fun ls hl => ?_)
  refine lv_aload_n hx hb dL_law_1177 rfl (lv_at hl 4 rfl) ?_
  refine k_Ri (va_runV (As := []) (rest := []) hF (c_X4_thrown l D cI cA am _ _ _) (cwV 0 hts gL_law_X4_thrown rfl rfl rfl (by decide +kernel) ⟨(Nat.le_of_ble_eq_true rfl), (Nat.le_of_ble_eq_true rfl)⟩) (k_pre hPm hKm hDm hT (k := 0) (by decide) mF_0 rfl) rfl rfl hl.1 rfl (lv_room (Nat.le_of_ble_eq_true rfl)) dL_law_1178 ⟨hroom.1, hroom.2⟩) ?_
  refine lv_iload hx hb dL_law_1181 (lv_at hl 1 rfl) ?_
  refine r_ceqN (tgt := 1188) hx hb (by decide) (by decide) dL_law_1183 (by decide) (fun _ => ?_) (fun h => absurd rfl h)
  refine lv_iload hx hb dL_law_1188 (lv_at hl 1 rfl) ?_
  refine r_ifneN (a := 2) (tgt := 1205) hx hb (by decide) dL_law_1190 (by decide) (fun _ => ?_) (fun h => absurd h (by decide))
  refine lv_goto (tgt := 1441) hx hb dL_law_1205 (by decide) ?_
  exact kk _ _ _ _ _ _ _ _ (by omega) ⟨hPo, hPm, hS, hR⟩ (lv_sub hl [2, 3, 4, 5, 6] rfl)
set_option maxHeartbeats 4000000 in
set_option maxRecDepth 100000 in
theorem z_score_0 {p : Program} {l : Launch} {e : Env} {s : State} {m : MethodId} {below : List Frame} {meth : Method} {c9 : Code} {H : Heap} {cells slots : Nat} {Q : State → Prop} {ls : Array Slot} {D : va_G} {b0 L : Nat} {xs : Nat → Int32} {cI cA cL : ClassId} {ad am : Nat → Nat} {K n : Nat} {x y : Nat → Nat → Int32} {o : Nat → Int64} {th : Int32} {i : Nat} (C0 : lwC p l s m c9 b0 L xs D cI cA cL ad am) (S0 : lwS s D cI cA cL ad am K n x y o th H) (hK30 : K < 2 ^ 30) (hroom : cells + 1 ≤ room_1.cells ∧ slots + 6 ≤ room_1.slots) (hi : i + 4 < L) (hl : lv_has ls 7 [(0, .ref b0), (1, .ref (ad 0)), (2, .ref (am 0)), (3, .ref (ad 46)), (4, .int (nI i))]) (c : Nat) (d : Nat) (hc : c < n) (hd : d < n) (hne : c ≠ d) (e1 : xs (i + 1) = nI c) (e2 : xs (i + 2) = nI d) (kk : ∀ (K' n' : Nat) (x' y' : Nat → Nat → Int32) (o' : Nat → Int64) (th' : Int32) (H' : Heap) (ls' : Array Slot), K' ≤ K + 216 → lwS s D cI cA cL ad am K' n' x' y' o' th' H' → lv_has ls' 7 [(0, .ref b0), (1, .ref (ad 0)), (2, .ref (am 0)), (3, .ref (ad 46)), (4, .int (nI i))] → W p l e room_1 s m #[Value.ref b0] below meth c9 H' [] (cells + 1) (slots + 6) Q (F0 m 1441 ls' [])) : W p l e room_1 s m #[Value.ref b0] below meth c9 H [] cells slots Q (F0 m 1208 ls []) := by
  obtain ⟨hx, hb, hF, hK, hDo, hDm, hdis, hT, hXF, hC, hlt, hX, hbl, hL⟩ := C0
  obtain ⟨hPo, hPm, hS, hR⟩ := S0
  have hn9 : n ≤ 24 := hR.n24
  have hn : n ≤ 24 := hn9
  have hts := hF.2.2.2.2
  have hKm := hK.sub (tys' := [(cI, .int), (cA, .array .int)]) [0, 1] rfl
  have hAo : ∀ q, wA ad 47 q → s.heap.size ≤ q := fun q ⟨k, hk, eq⟩ => by rw [eq]; exact hDo.2 k hk
  have hAm : ∀ q, wA am 8 q → s.heap.size ≤ q := fun q ⟨k, hk, eq⟩ => by rw [eq]; exact hDm.2 k hk
  refine lv_aload_n hx hb dL_law_1208 rfl (lv_at hl 1 rfl) ?_
  refine lv_aload_n hx hb dL_law_1209 rfl (lv_at hl 0 rfl) ?_
  refine lv_iload hx hb dL_law_1210 (lv_at hl 4 rfl) ?_
  refine lv_iconst (v := nI 1) hx hb dL_law_1212 (by decide) ?_
  refine r_addN (r := i + 1) hx hb dL_law_1213 rfl ?_
  refine r_sld hx hb hX hbl hL hS (i := i + 1) (by omega) e1 dL_law_1214 ?_
  refine lv_aload_n hx hb dL_law_1215 rfl (lv_at hl 0 rfl) ?_
  refine lv_iload hx hb dL_law_1216 (lv_at hl 4 rfl) ?_
  refine lv_iconst (v := nI 2) hx hb dL_law_1218 (by decide) ?_
  refine r_addN (r := i + 2) hx hb dL_law_1219 rfl ?_
  refine r_sld hx hb hX hbl hL hS (i := i + 2) (by omega) e2 dL_law_1220 ?_
  refine lv_aload_n hx hb dL_law_1221 rfl (lv_at hl 3 rfl) ?_
  refine k_L (vx_runSW (As := [.ref (ad 0), .int (nI c), .int (nI d), .ref (ad 46)]) (rest := []) hF (w_score_0 l D cI cA ad n x c d cL o hc hd hne hn) (vx_cwSW 4 hts gL_law_L_score rfl rfl rfl (by decide +kernel) ⟨(Nat.le_of_ble_eq_true rfl), (Nat.le_of_ble_eq_true rfl)⟩) (lw_pre hK hDo hT hXF hC hPo hS) rfl rfl hl.1 rfl (lv_room (Nat.le_of_ble_eq_true rfl)) dL_law_1222 hroom) hAo (fun H1 hP1 hz hk9 => ?_)
  have hPm := lw_keep (fun j hj ⟨k, hk, eq⟩ => hdis k j hk hj eq.symm) hPm hk9
  have hS := lw_S hAo hS hz hk9
  refine lv_istore (lv' := [(5, .int (nI 0)), (0, .ref b0), (1, .ref (ad 0)), (2, .ref (am 0)), (3, .ref (ad 46)), (4, .int (nI i))]) hx hb dL_law_1225 hl (by decide) rfl (fun ls hl => ?_)
  refine lv_aload_n hx hb dL_law_1227 rfl (lv_at hl 3 rfl) ?_
  refine lv_aload_n hx hb dL_law_1228 rfl (lv_at hl 1 rfl) ?_
  refine lv_iload hx hb dL_law_1229 (lv_at hl 5 rfl) ?_
  refine lv_iconst (v := nI 1) hx hb dL_law_1231 (by decide) ?_
  refine r_addN (r := i + 1) hx hb dL_law_1232 rfl ?_
  refine r_sld hx hb hX hbl hL hS (i := i + 1) (by omega) e1 dL_law_1233 ?_
  refine lv_aload_n hx hb dL_law_1234 rfl (lv_at hl 1 rfl) ?_
  refine lv_iload hx hb dL_law_1235 (lv_at hl 5 rfl) ?_
  refine lv_iconst (v := nI 2) hx hb dL_law_1237 (by decide) ?_
  refine r_addN (r := i + 2) hx hb dL_law_1238 rfl ?_
  refine r_sld hx hb hX hbl hL hS (i := i + 2) (by omega) e2 dL_law_1239 ?_
  refine k_M (va_runV (As := [.int (nI c), .int (nI d)]) (rest := []) hF (m_score_0 l D cI cA am th n y c d (x 9) hc hd hne hn9 hR.grp) (cwV 2 hts gL_law_X4_score rfl rfl rfl (by decide +kernel) ⟨(Nat.le_of_ble_eq_true rfl), (Nat.le_of_ble_eq_true rfl)⟩) (k_pre hPm hKm hDm hT (k := 0) (by decide) mF_0 rfl) rfl rfl hl.1 rfl (lv_room (Nat.le_of_ble_eq_true rfl)) dL_law_1240 ⟨hroom.1, hroom.2⟩) hAm (fun H2 hPm hz hk9 => ?_)
  have hPo := lw_keep (fun j hj ⟨k, hk, eq⟩ => hdis j k hj hk eq) hP1 hk9
  have hS := lw_S hAm hS hz hk9
  refine r_topi (show _ = sc x c d from (hR.scE hc hd).symm) ?_
  refine lv_istore (lv' := [(6, .int (sc x c d)), (5, .int (nI 0)), (0, .ref b0), (1, .ref (ad 0)), (2, .ref (am 0)), (3, .ref (ad 46)), (4, .int (nI i))]) hx hb dL_law_1243 hl (by decide) rfl (fun ls hl => ?_)
  refine lv_aload_n hx hb dL_law_1245 rfl (lv_at hl 4 rfl) ?_
  refine k_Ri (va_runV (As := []) (rest := []) hF (c_X4_thrown l D cI cA am _ _ _) (cwV 0 hts gL_law_X4_thrown rfl rfl rfl (by decide +kernel) ⟨(Nat.le_of_ble_eq_true rfl), (Nat.le_of_ble_eq_true rfl)⟩) (k_pre hPm hKm hDm hT (k := 0) (by decide) mF_0 rfl) rfl rfl hl.1 rfl (lv_room (Nat.le_of_ble_eq_true rfl)) dL_law_1246 ⟨hroom.1, hroom.2⟩) ?_
  refine lv_iload hx hb dL_law_1249 (lv_at hl 1 rfl) ?_
  refine r_ceqN (tgt := 1256) hx hb (by decide) (by decide) dL_law_1251 (by decide) (fun _ => ?_) (fun h => absurd rfl h)
  refine lv_iload hx hb dL_law_1256 (lv_at hl 1 rfl) ?_
  refine r_ifneN (a := 0) (tgt := 1273) hx hb (by decide) dL_law_1258 (by decide) (fun h => absurd rfl h) (fun _ => ?_)
  refine lv_aload_n hx hb dL_law_1261 rfl (lv_at hl 5 rfl) ?_
  refine lv_iconst (v := nI 0) hx hb dL_law_1262 (by decide) ?_
  refine va_lald hx hb hK hPo 46 2 (wl_at (show 46 < 47 by decide)) rfl (vp_in_nI (by decide) (by decide)) dL_law_1263 ?_
  rw [oW_0 (w := (sc x c d).toInt64)]
  refine lv_iload hx hb dL_law_1264 (lv_at hl 0 rfl) ?_
  refine lv_i2l hx hb dL_law_1266 rfl ?_
  refine r_lcmpE hx hb dL_law_1267 ?_
  refine r_ifeqN (a := 0) (tgt := 1273) hx hb (by decide) dL_law_1268 (by decide) (fun _ => ?_) (fun h => absurd rfl h)
  refine lv_goto (tgt := 1441) hx hb dL_law_1273 (by decide) ?_
  exact kk _ _ _ _ _ _ _ _ (by omega) ⟨hPo, hPm, hS, hR⟩ (lv_sub hl [2, 3, 4, 5, 6] rfl)
set_option maxHeartbeats 4000000 in
set_option maxRecDepth 100000 in
theorem z_score_Ta {p : Program} {l : Launch} {e : Env} {s : State} {m : MethodId} {below : List Frame} {meth : Method} {c9 : Code} {H : Heap} {cells slots : Nat} {Q : State → Prop} {ls : Array Slot} {D : va_G} {b0 L : Nat} {xs : Nat → Int32} {cI cA cL : ClassId} {ad am : Nat → Nat} {K n : Nat} {x y : Nat → Nat → Int32} {o : Nat → Int64} {th : Int32} {i : Nat} (C0 : lwC p l s m c9 b0 L xs D cI cA cL ad am) (S0 : lwS s D cI cA cL ad am K n x y o th H) (hK30 : K < 2 ^ 30) (hroom : cells + 1 ≤ room_1.cells ∧ slots + 6 ≤ room_1.slots) (hi : i + 4 < L) (hl : lv_has ls 7 [(0, .ref b0), (1, .ref (ad 0)), (2, .ref (am 0)), (3, .ref (ad 46)), (4, .int (nI i))]) (a : Int32) (b : Int32) (hca : cardB n a = false) (e1 : xs (i + 1) = a) (e2 : xs (i + 2) = b) (kk : ∀ (K' n' : Nat) (x' y' : Nat → Nat → Int32) (o' : Nat → Int64) (th' : Int32) (H' : Heap) (ls' : Array Slot), K' ≤ K + 216 → lwS s D cI cA cL ad am K' n' x' y' o' th' H' → lv_has ls' 7 [(0, .ref b0), (1, .ref (ad 0)), (2, .ref (am 0)), (3, .ref (ad 46)), (4, .int (nI i))] → W p l e room_1 s m #[Value.ref b0] below meth c9 H' [] (cells + 1) (slots + 6) Q (F0 m 1441 ls' [])) : W p l e room_1 s m #[Value.ref b0] below meth c9 H [] cells slots Q (F0 m 1208 ls []) := by
  obtain ⟨hx, hb, hF, hK, hDo, hDm, hdis, hT, hXF, hC, hlt, hX, hbl, hL⟩ := C0
  obtain ⟨hPo, hPm, hS, hR⟩ := S0
  have hn9 : n ≤ 24 := hR.n24
  have hn : n ≤ 24 := hn9
  have hts := hF.2.2.2.2
  have hKm := hK.sub (tys' := [(cI, .int), (cA, .array .int)]) [0, 1] rfl
  have hAo : ∀ q, wA ad 47 q → s.heap.size ≤ q := fun q ⟨k, hk, eq⟩ => by rw [eq]; exact hDo.2 k hk
  have hAm : ∀ q, wA am 8 q → s.heap.size ≤ q := fun q ⟨k, hk, eq⟩ => by rw [eq]; exact hDm.2 k hk
  refine lv_aload_n hx hb dL_law_1208 rfl (lv_at hl 1 rfl) ?_
  refine lv_aload_n hx hb dL_law_1209 rfl (lv_at hl 0 rfl) ?_
  refine lv_iload hx hb dL_law_1210 (lv_at hl 4 rfl) ?_
  refine lv_iconst (v := nI 1) hx hb dL_law_1212 (by decide) ?_
  refine r_addN (r := i + 1) hx hb dL_law_1213 rfl ?_
  refine r_sld hx hb hX hbl hL hS (i := i + 1) (by omega) e1 dL_law_1214 ?_
  refine lv_aload_n hx hb dL_law_1215 rfl (lv_at hl 0 rfl) ?_
  refine lv_iload hx hb dL_law_1216 (lv_at hl 4 rfl) ?_
  refine lv_iconst (v := nI 2) hx hb dL_law_1218 (by decide) ?_
  refine r_addN (r := i + 2) hx hb dL_law_1219 rfl ?_
  refine r_sld hx hb hX hbl hL hS (i := i + 2) (by omega) e2 dL_law_1220 ?_
  refine lv_aload_n hx hb dL_law_1221 rfl (lv_at hl 3 rfl) ?_
  refine k_L (vx_runSW (As := [.ref (ad 0), .int a, .int b, .ref (ad 46)]) (rest := []) hF (w_score_Ta l D cI cA ad n x a b cL o hlt hca) (vx_cwSW 4 hts gL_law_L_score rfl rfl rfl (by decide +kernel) ⟨(Nat.le_of_ble_eq_true rfl), (Nat.le_of_ble_eq_true rfl)⟩) (lw_pre hK hDo hT hXF hC hPo hS) rfl rfl hl.1 rfl (lv_room (Nat.le_of_ble_eq_true rfl)) dL_law_1222 hroom) hAo (fun H1 hP1 hz hk9 => ?_)
  have hPm := lw_keep (fun j hj ⟨k, hk, eq⟩ => hdis k j hk hj eq.symm) hPm hk9
  have hS := lw_S hAo hS hz hk9
  refine lv_istore (lv' := [(5, .int (nI 1)), (0, .ref b0), (1, .ref (ad 0)), (2, .ref (am 0)), (3, .ref (ad 46)), (4, .int (nI i))]) hx hb dL_law_1225 hl (by decide) rfl (fun ls hl => ?_)
  refine lv_aload_n hx hb dL_law_1227 rfl (lv_at hl 3 rfl) ?_
  refine lv_aload_n hx hb dL_law_1228 rfl (lv_at hl 1 rfl) ?_
  refine lv_iload hx hb dL_law_1229 (lv_at hl 5 rfl) ?_
  refine lv_iconst (v := nI 1) hx hb dL_law_1231 (by decide) ?_
  refine r_addN (r := i + 1) hx hb dL_law_1232 rfl ?_
  refine r_sld hx hb hX hbl hL hS (i := i + 1) (by omega) e1 dL_law_1233 ?_
  refine lv_aload_n hx hb dL_law_1234 rfl (lv_at hl 1 rfl) ?_
  refine lv_iload hx hb dL_law_1235 (lv_at hl 5 rfl) ?_
  refine lv_iconst (v := nI 2) hx hb dL_law_1237 (by decide) ?_
  refine r_addN (r := i + 2) hx hb dL_law_1238 rfl ?_
  refine r_sld hx hb hX hbl hL hS (i := i + 2) (by omega) e2 dL_law_1239 ?_
  refine k_M (va_runV (As := [.int a, .int b]) (rest := []) hF (m_score_1 l D cI cA am th n y a b hn9 (by rw [hca]; rfl)) (cwV 2 hts gL_law_X4_score rfl rfl rfl (by decide +kernel) ⟨(Nat.le_of_ble_eq_true rfl), (Nat.le_of_ble_eq_true rfl)⟩) (k_pre hPm hKm hDm hT (k := 0) (by decide) mF_0 rfl) rfl rfl hl.1 rfl (lv_room (Nat.le_of_ble_eq_true rfl)) dL_law_1240 ⟨hroom.1, hroom.2⟩) hAm (fun H2 hPm hz hk9 => ?_)
  have hPo := lw_keep (fun j hj ⟨k, hk, eq⟩ => hdis j k hj hk eq) hP1 hk9
  have hS := lw_S hAm hS hz hk9
  refine lv_istore (lv' := [(6, .int (nI 0)), (5, .int (nI 1)), (0, .ref b0), (1, .ref (ad 0)), (2, .ref (am 0)), (3, .ref (ad 46)), (4, .int (nI i))]) hx hb dL_law_1243 hl (by decide) rfl (fun ls hl => ?_)
  refine lv_aload_n hx hb dL_law_1245 rfl (lv_at hl 4 rfl) ?_
  refine k_Ri (va_runV (As := []) (rest := []) hF (c_X4_thrown l D cI cA am _ _ _) (cwV 0 hts gL_law_X4_thrown rfl rfl rfl (by decide +kernel) ⟨(Nat.le_of_ble_eq_true rfl), (Nat.le_of_ble_eq_true rfl)⟩) (k_pre hPm hKm hDm hT (k := 0) (by decide) mF_0 rfl) rfl rfl hl.1 rfl (lv_room (Nat.le_of_ble_eq_true rfl)) dL_law_1246 ⟨hroom.1, hroom.2⟩) ?_
  refine lv_iload hx hb dL_law_1249 (lv_at hl 1 rfl) ?_
  refine r_ceqN (tgt := 1256) hx hb (by decide) (by decide) dL_law_1251 (by decide) (fun _ => ?_) (fun h => absurd rfl h)
  refine lv_iload hx hb dL_law_1256 (lv_at hl 1 rfl) ?_
  refine r_ifneN (a := 1) (tgt := 1273) hx hb (by decide) dL_law_1258 (by decide) (fun _ => ?_) (fun h => absurd h (by decide))
  refine lv_goto (tgt := 1441) hx hb dL_law_1273 (by decide) ?_
  exact kk _ _ _ _ _ _ _ _ (by omega) ⟨hPo, hPm, hS, hR⟩ (lv_sub hl [2, 3, 4, 5, 6] rfl)
set_option maxHeartbeats 4000000 in
set_option maxRecDepth 100000 in
theorem z_score_Tb {p : Program} {l : Launch} {e : Env} {s : State} {m : MethodId} {below : List Frame} {meth : Method} {c9 : Code} {H : Heap} {cells slots : Nat} {Q : State → Prop} {ls : Array Slot} {D : va_G} {b0 L : Nat} {xs : Nat → Int32} {cI cA cL : ClassId} {ad am : Nat → Nat} {K n : Nat} {x y : Nat → Nat → Int32} {o : Nat → Int64} {th : Int32} {i : Nat} (C0 : lwC p l s m c9 b0 L xs D cI cA cL ad am) (S0 : lwS s D cI cA cL ad am K n x y o th H) (hK30 : K < 2 ^ 30) (hroom : cells + 1 ≤ room_1.cells ∧ slots + 6 ≤ room_1.slots) (hi : i + 4 < L) (hl : lv_has ls 7 [(0, .ref b0), (1, .ref (ad 0)), (2, .ref (am 0)), (3, .ref (ad 46)), (4, .int (nI i))]) (c : Nat) (b : Int32) (hc : c < n) (hcb : cardB n b = false) (e1 : xs (i + 1) = nI c) (e2 : xs (i + 2) = b) (kk : ∀ (K' n' : Nat) (x' y' : Nat → Nat → Int32) (o' : Nat → Int64) (th' : Int32) (H' : Heap) (ls' : Array Slot), K' ≤ K + 216 → lwS s D cI cA cL ad am K' n' x' y' o' th' H' → lv_has ls' 7 [(0, .ref b0), (1, .ref (ad 0)), (2, .ref (am 0)), (3, .ref (ad 46)), (4, .int (nI i))] → W p l e room_1 s m #[Value.ref b0] below meth c9 H' [] (cells + 1) (slots + 6) Q (F0 m 1441 ls' [])) : W p l e room_1 s m #[Value.ref b0] below meth c9 H [] cells slots Q (F0 m 1208 ls []) := by
  obtain ⟨hx, hb, hF, hK, hDo, hDm, hdis, hT, hXF, hC, hlt, hX, hbl, hL⟩ := C0
  obtain ⟨hPo, hPm, hS, hR⟩ := S0
  have hn9 : n ≤ 24 := hR.n24
  have hn : n ≤ 24 := hn9
  have hts := hF.2.2.2.2
  have hKm := hK.sub (tys' := [(cI, .int), (cA, .array .int)]) [0, 1] rfl
  have hAo : ∀ q, wA ad 47 q → s.heap.size ≤ q := fun q ⟨k, hk, eq⟩ => by rw [eq]; exact hDo.2 k hk
  have hAm : ∀ q, wA am 8 q → s.heap.size ≤ q := fun q ⟨k, hk, eq⟩ => by rw [eq]; exact hDm.2 k hk
  refine lv_aload_n hx hb dL_law_1208 rfl (lv_at hl 1 rfl) ?_
  refine lv_aload_n hx hb dL_law_1209 rfl (lv_at hl 0 rfl) ?_
  refine lv_iload hx hb dL_law_1210 (lv_at hl 4 rfl) ?_
  refine lv_iconst (v := nI 1) hx hb dL_law_1212 (by decide) ?_
  refine r_addN (r := i + 1) hx hb dL_law_1213 rfl ?_
  refine r_sld hx hb hX hbl hL hS (i := i + 1) (by omega) e1 dL_law_1214 ?_
  refine lv_aload_n hx hb dL_law_1215 rfl (lv_at hl 0 rfl) ?_
  refine lv_iload hx hb dL_law_1216 (lv_at hl 4 rfl) ?_
  refine lv_iconst (v := nI 2) hx hb dL_law_1218 (by decide) ?_
  refine r_addN (r := i + 2) hx hb dL_law_1219 rfl ?_
  refine r_sld hx hb hX hbl hL hS (i := i + 2) (by omega) e2 dL_law_1220 ?_
  refine lv_aload_n hx hb dL_law_1221 rfl (lv_at hl 3 rfl) ?_
  refine k_L (vx_runSW (As := [.ref (ad 0), .int (nI c), .int b, .ref (ad 46)]) (rest := []) hF (w_score_Tb l D cI cA ad n x c b cL o hlt hc hn hcb) (vx_cwSW 4 hts gL_law_L_score rfl rfl rfl (by decide +kernel) ⟨(Nat.le_of_ble_eq_true rfl), (Nat.le_of_ble_eq_true rfl)⟩) (lw_pre hK hDo hT hXF hC hPo hS) rfl rfl hl.1 rfl (lv_room (Nat.le_of_ble_eq_true rfl)) dL_law_1222 hroom) hAo (fun H1 hP1 hz hk9 => ?_)
  have hPm := lw_keep (fun j hj ⟨k, hk, eq⟩ => hdis k j hk hj eq.symm) hPm hk9
  have hS := lw_S hAo hS hz hk9
  refine lv_istore (lv' := [(5, .int (nI 1)), (0, .ref b0), (1, .ref (ad 0)), (2, .ref (am 0)), (3, .ref (ad 46)), (4, .int (nI i))]) hx hb dL_law_1225 hl (by decide) rfl (fun ls hl => ?_)
  refine lv_aload_n hx hb dL_law_1227 rfl (lv_at hl 3 rfl) ?_
  refine lv_aload_n hx hb dL_law_1228 rfl (lv_at hl 1 rfl) ?_
  refine lv_iload hx hb dL_law_1229 (lv_at hl 5 rfl) ?_
  refine lv_iconst (v := nI 1) hx hb dL_law_1231 (by decide) ?_
  refine r_addN (r := i + 1) hx hb dL_law_1232 rfl ?_
  refine r_sld hx hb hX hbl hL hS (i := i + 1) (by omega) e1 dL_law_1233 ?_
  refine lv_aload_n hx hb dL_law_1234 rfl (lv_at hl 1 rfl) ?_
  refine lv_iload hx hb dL_law_1235 (lv_at hl 5 rfl) ?_
  refine lv_iconst (v := nI 2) hx hb dL_law_1237 (by decide) ?_
  refine r_addN (r := i + 2) hx hb dL_law_1238 rfl ?_
  refine r_sld hx hb hX hbl hL hS (i := i + 2) (by omega) e2 dL_law_1239 ?_
  refine k_M (va_runV (As := [.int (nI c), .int b]) (rest := []) hF (m_score_1 l D cI cA am th n y (nI c) b hn9 (by rw [hcb, Bool.and_false])) (cwV 2 hts gL_law_X4_score rfl rfl rfl (by decide +kernel) ⟨(Nat.le_of_ble_eq_true rfl), (Nat.le_of_ble_eq_true rfl)⟩) (k_pre hPm hKm hDm hT (k := 0) (by decide) mF_0 rfl) rfl rfl hl.1 rfl (lv_room (Nat.le_of_ble_eq_true rfl)) dL_law_1240 ⟨hroom.1, hroom.2⟩) hAm (fun H2 hPm hz hk9 => ?_)
  have hPo := lw_keep (fun j hj ⟨k, hk, eq⟩ => hdis j k hj hk eq) hP1 hk9
  have hS := lw_S hAm hS hz hk9
  refine lv_istore (lv' := [(6, .int (nI 0)), (5, .int (nI 1)), (0, .ref b0), (1, .ref (ad 0)), (2, .ref (am 0)), (3, .ref (ad 46)), (4, .int (nI i))]) hx hb dL_law_1243 hl (by decide) rfl (fun ls hl => ?_)
  refine lv_aload_n hx hb dL_law_1245 rfl (lv_at hl 4 rfl) ?_
  refine k_Ri (va_runV (As := []) (rest := []) hF (c_X4_thrown l D cI cA am _ _ _) (cwV 0 hts gL_law_X4_thrown rfl rfl rfl (by decide +kernel) ⟨(Nat.le_of_ble_eq_true rfl), (Nat.le_of_ble_eq_true rfl)⟩) (k_pre hPm hKm hDm hT (k := 0) (by decide) mF_0 rfl) rfl rfl hl.1 rfl (lv_room (Nat.le_of_ble_eq_true rfl)) dL_law_1246 ⟨hroom.1, hroom.2⟩) ?_
  refine lv_iload hx hb dL_law_1249 (lv_at hl 1 rfl) ?_
  refine r_ceqN (tgt := 1256) hx hb (by decide) (by decide) dL_law_1251 (by decide) (fun _ => ?_) (fun h => absurd rfl h)
  refine lv_iload hx hb dL_law_1256 (lv_at hl 1 rfl) ?_
  refine r_ifneN (a := 1) (tgt := 1273) hx hb (by decide) dL_law_1258 (by decide) (fun _ => ?_) (fun h => absurd h (by decide))
  refine lv_goto (tgt := 1441) hx hb dL_law_1273 (by decide) ?_
  exact kk _ _ _ _ _ _ _ _ (by omega) ⟨hPo, hPm, hS, hR⟩ (lv_sub hl [2, 3, 4, 5, 6] rfl)
set_option maxHeartbeats 4000000 in
set_option maxRecDepth 100000 in
theorem z_score_Tc {p : Program} {l : Launch} {e : Env} {s : State} {m : MethodId} {below : List Frame} {meth : Method} {c9 : Code} {H : Heap} {cells slots : Nat} {Q : State → Prop} {ls : Array Slot} {D : va_G} {b0 L : Nat} {xs : Nat → Int32} {cI cA cL : ClassId} {ad am : Nat → Nat} {K n : Nat} {x y : Nat → Nat → Int32} {o : Nat → Int64} {th : Int32} {i : Nat} (C0 : lwC p l s m c9 b0 L xs D cI cA cL ad am) (S0 : lwS s D cI cA cL ad am K n x y o th H) (hK30 : K < 2 ^ 30) (hroom : cells + 1 ≤ room_1.cells ∧ slots + 6 ≤ room_1.slots) (hi : i + 4 < L) (hl : lv_has ls 7 [(0, .ref b0), (1, .ref (ad 0)), (2, .ref (am 0)), (3, .ref (ad 46)), (4, .int (nI i))]) (c : Nat) (hc : c < n) (e1 : xs (i + 1) = nI c) (e2 : xs (i + 2) = nI c) (kk : ∀ (K' n' : Nat) (x' y' : Nat → Nat → Int32) (o' : Nat → Int64) (th' : Int32) (H' : Heap) (ls' : Array Slot), K' ≤ K + 216 → lwS s D cI cA cL ad am K' n' x' y' o' th' H' → lv_has ls' 7 [(0, .ref b0), (1, .ref (ad 0)), (2, .ref (am 0)), (3, .ref (ad 46)), (4, .int (nI i))] → W p l e room_1 s m #[Value.ref b0] below meth c9 H' [] (cells + 1) (slots + 6) Q (F0 m 1441 ls' [])) : W p l e room_1 s m #[Value.ref b0] below meth c9 H [] cells slots Q (F0 m 1208 ls []) := by
  obtain ⟨hx, hb, hF, hK, hDo, hDm, hdis, hT, hXF, hC, hlt, hX, hbl, hL⟩ := C0
  obtain ⟨hPo, hPm, hS, hR⟩ := S0
  have hn9 : n ≤ 24 := hR.n24
  have hn : n ≤ 24 := hn9
  have hts := hF.2.2.2.2
  have hKm := hK.sub (tys' := [(cI, .int), (cA, .array .int)]) [0, 1] rfl
  have hAo : ∀ q, wA ad 47 q → s.heap.size ≤ q := fun q ⟨k, hk, eq⟩ => by rw [eq]; exact hDo.2 k hk
  have hAm : ∀ q, wA am 8 q → s.heap.size ≤ q := fun q ⟨k, hk, eq⟩ => by rw [eq]; exact hDm.2 k hk
  refine lv_aload_n hx hb dL_law_1208 rfl (lv_at hl 1 rfl) ?_
  refine lv_aload_n hx hb dL_law_1209 rfl (lv_at hl 0 rfl) ?_
  refine lv_iload hx hb dL_law_1210 (lv_at hl 4 rfl) ?_
  refine lv_iconst (v := nI 1) hx hb dL_law_1212 (by decide) ?_
  refine r_addN (r := i + 1) hx hb dL_law_1213 rfl ?_
  refine r_sld hx hb hX hbl hL hS (i := i + 1) (by omega) e1 dL_law_1214 ?_
  refine lv_aload_n hx hb dL_law_1215 rfl (lv_at hl 0 rfl) ?_
  refine lv_iload hx hb dL_law_1216 (lv_at hl 4 rfl) ?_
  refine lv_iconst (v := nI 2) hx hb dL_law_1218 (by decide) ?_
  refine r_addN (r := i + 2) hx hb dL_law_1219 rfl ?_
  refine r_sld hx hb hX hbl hL hS (i := i + 2) (by omega) e2 dL_law_1220 ?_
  refine lv_aload_n hx hb dL_law_1221 rfl (lv_at hl 3 rfl) ?_
  refine k_L (vx_runSW (As := [.ref (ad 0), .int (nI c), .int (nI c), .ref (ad 46)]) (rest := []) hF (w_score_Tc l D cI cA ad n x c cL o hlt hc hn) (vx_cwSW 4 hts gL_law_L_score rfl rfl rfl (by decide +kernel) ⟨(Nat.le_of_ble_eq_true rfl), (Nat.le_of_ble_eq_true rfl)⟩) (lw_pre hK hDo hT hXF hC hPo hS) rfl rfl hl.1 rfl (lv_room (Nat.le_of_ble_eq_true rfl)) dL_law_1222 hroom) hAo (fun H1 hP1 hz hk9 => ?_)
  have hPm := lw_keep (fun j hj ⟨k, hk, eq⟩ => hdis k j hk hj eq.symm) hPm hk9
  have hS := lw_S hAo hS hz hk9
  refine lv_istore (lv' := [(5, .int (nI 2)), (0, .ref b0), (1, .ref (ad 0)), (2, .ref (am 0)), (3, .ref (ad 46)), (4, .int (nI i))]) hx hb dL_law_1225 hl (by decide) rfl (fun ls hl => ?_)
  refine lv_aload_n hx hb dL_law_1227 rfl (lv_at hl 3 rfl) ?_
  refine lv_aload_n hx hb dL_law_1228 rfl (lv_at hl 1 rfl) ?_
  refine lv_iload hx hb dL_law_1229 (lv_at hl 5 rfl) ?_
  refine lv_iconst (v := nI 1) hx hb dL_law_1231 (by decide) ?_
  refine r_addN (r := i + 1) hx hb dL_law_1232 rfl ?_
  refine r_sld hx hb hX hbl hL hS (i := i + 1) (by omega) e1 dL_law_1233 ?_
  refine lv_aload_n hx hb dL_law_1234 rfl (lv_at hl 1 rfl) ?_
  refine lv_iload hx hb dL_law_1235 (lv_at hl 5 rfl) ?_
  refine lv_iconst (v := nI 2) hx hb dL_law_1237 (by decide) ?_
  refine r_addN (r := i + 2) hx hb dL_law_1238 rfl ?_
  refine r_sld hx hb hX hbl hL hS (i := i + 2) (by omega) e2 dL_law_1239 ?_
  refine k_M (va_runV (As := [.int (nI c), .int (nI c)]) (rest := []) hF (m_score_2 l D cI cA am th n y c hc hn9) (cwV 2 hts gL_law_X4_score rfl rfl rfl (by decide +kernel) ⟨(Nat.le_of_ble_eq_true rfl), (Nat.le_of_ble_eq_true rfl)⟩) (k_pre hPm hKm hDm hT (k := 0) (by decide) mF_0 rfl) rfl rfl hl.1 rfl (lv_room (Nat.le_of_ble_eq_true rfl)) dL_law_1240 ⟨hroom.1, hroom.2⟩) hAm (fun H2 hPm hz hk9 => ?_)
  have hPo := lw_keep (fun j hj ⟨k, hk, eq⟩ => hdis j k hj hk eq) hP1 hk9
  have hS := lw_S hAm hS hz hk9
  refine lv_istore (lv' := [(6, .int (nI 0)), (5, .int (nI 2)), (0, .ref b0), (1, .ref (ad 0)), (2, .ref (am 0)), (3, .ref (ad 46)), (4, .int (nI i))]) hx hb dL_law_1243 hl (by decide) rfl (fun ls hl => ?_)
  refine lv_aload_n hx hb dL_law_1245 rfl (lv_at hl 4 rfl) ?_
  refine k_Ri (va_runV (As := []) (rest := []) hF (c_X4_thrown l D cI cA am _ _ _) (cwV 0 hts gL_law_X4_thrown rfl rfl rfl (by decide +kernel) ⟨(Nat.le_of_ble_eq_true rfl), (Nat.le_of_ble_eq_true rfl)⟩) (k_pre hPm hKm hDm hT (k := 0) (by decide) mF_0 rfl) rfl rfl hl.1 rfl (lv_room (Nat.le_of_ble_eq_true rfl)) dL_law_1246 ⟨hroom.1, hroom.2⟩) ?_
  refine lv_iload hx hb dL_law_1249 (lv_at hl 1 rfl) ?_
  refine r_ceqN (tgt := 1256) hx hb (by decide) (by decide) dL_law_1251 (by decide) (fun _ => ?_) (fun h => absurd rfl h)
  refine lv_iload hx hb dL_law_1256 (lv_at hl 1 rfl) ?_
  refine r_ifneN (a := 2) (tgt := 1273) hx hb (by decide) dL_law_1258 (by decide) (fun _ => ?_) (fun h => absurd h (by decide))
  refine lv_goto (tgt := 1441) hx hb dL_law_1273 (by decide) ?_
  exact kk _ _ _ _ _ _ _ _ (by omega) ⟨hPo, hPm, hS, hR⟩ (lv_sub hl [2, 3, 4, 5, 6] rfl)
set_option maxHeartbeats 4000000 in
set_option maxRecDepth 100000 in
theorem z_pairAt_0 {p : Program} {l : Launch} {e : Env} {s : State} {m : MethodId} {below : List Frame} {meth : Method} {c9 : Code} {H : Heap} {cells slots : Nat} {Q : State → Prop} {ls : Array Slot} {D : va_G} {b0 L : Nat} {xs : Nat → Int32} {cI cA cL : ClassId} {ad am : Nat → Nat} {K n : Nat} {x y : Nat → Nat → Int32} {o : Nat → Int64} {th : Int32} {i : Nat} (C0 : lwC p l s m c9 b0 L xs D cI cA cL ad am) (S0 : lwS s D cI cA cL ad am K n x y o th H) (hK30 : K < 2 ^ 30) (hroom : cells + 1 ≤ room_1.cells ∧ slots + 6 ≤ room_1.slots) (hi : i + 4 < L) (hl : lv_has ls 7 [(0, .ref b0), (1, .ref (ad 0)), (2, .ref (am 0)), (3, .ref (ad 46)), (4, .int (nI i))]) (q : Nat) (hq : q < 2 ^ 31) (hqt : nI q < tlC x n) (e1 : xs (i + 1) = nI q) (kk : ∀ (K' n' : Nat) (x' y' : Nat → Nat → Int32) (o' : Nat → Int64) (th' : Int32) (H' : Heap) (ls' : Array Slot), K' ≤ K + 216 → lwS s D cI cA cL ad am K' n' x' y' o' th' H' → lv_has ls' 7 [(0, .ref b0), (1, .ref (ad 0)), (2, .ref (am 0)), (3, .ref (ad 46)), (4, .int (nI i))] → W p l e room_1 s m #[Value.ref b0] below meth c9 H' [] (cells + 1) (slots + 6) Q (F0 m 1441 ls' [])) : W p l e room_1 s m #[Value.ref b0] below meth c9 H [] cells slots Q (F0 m 1289 ls []) := by
  obtain ⟨hx, hb, hF, hK, hDo, hDm, hdis, hT, hXF, hC, hlt, hX, hbl, hL⟩ := C0
  obtain ⟨hPo, hPm, hS, hR⟩ := S0
  have hn9 : n ≤ 24 := hR.n24
  have hn : n ≤ 24 := hn9
  have hts := hF.2.2.2.2
  have hKm := hK.sub (tys' := [(cI, .int), (cA, .array .int)]) [0, 1] rfl
  have hAo : ∀ q, wA ad 47 q → s.heap.size ≤ q := fun q ⟨k, hk, eq⟩ => by rw [eq]; exact hDo.2 k hk
  have hAm : ∀ q, wA am 8 q → s.heap.size ≤ q := fun q ⟨k, hk, eq⟩ => by rw [eq]; exact hDm.2 k hk
  refine lv_aload_n hx hb dL_law_1289 rfl (lv_at hl 1 rfl) ?_
  refine lv_aload_n hx hb dL_law_1290 rfl (lv_at hl 0 rfl) ?_
  refine lv_iload hx hb dL_law_1291 (lv_at hl 4 rfl) ?_
  refine lv_iconst (v := nI 1) hx hb dL_law_1293 (by decide) ?_
  refine r_addN (r := i + 1) hx hb dL_law_1294 rfl ?_
  refine r_sld hx hb hX hbl hL hS (i := i + 1) (by omega) e1 dL_law_1295 ?_
  refine lv_aload_n hx hb dL_law_1296 rfl (lv_at hl 3 rfl) ?_
  refine k_L (vx_runSW (As := [.ref (ad 0), .int (nI q), .ref (ad 46)]) (rest := []) hF (w_pairAt_0 l D cI cA ad n x q cL o hn hq hqt) (vx_cwSW 3 hts gL_law_L_pairAt rfl rfl rfl (by decide +kernel) ⟨(Nat.le_of_ble_eq_true rfl), (Nat.le_of_ble_eq_true rfl)⟩) (lw_pre hK hDo hT hXF hC hPo hS) rfl rfl hl.1 rfl (lv_room (Nat.le_of_ble_eq_true rfl)) dL_law_1297 hroom) hAo (fun H1 hP1 hz hk9 => ?_)
  have hPm := lw_keep (fun j hj ⟨k, hk, eq⟩ => hdis k j hk hj eq.symm) hPm hk9
  have hS := lw_S hAo hS hz hk9
  refine lv_istore (lv' := [(5, .int (nI 0)), (0, .ref b0), (1, .ref (ad 0)), (2, .ref (am 0)), (3, .ref (ad 46)), (4, .int (nI i))]) hx hb dL_law_1300 hl (by decide) rfl (fun ls hl => ?_)
  refine lv_aload_n hx hb dL_law_1302 rfl (lv_at hl 3 rfl) ?_
  refine lv_aload_n hx hb dL_law_1303 rfl (lv_at hl 1 rfl) ?_
  refine lv_iload hx hb dL_law_1304 (lv_at hl 5 rfl) ?_
  refine lv_iconst (v := nI 1) hx hb dL_law_1306 (by decide) ?_
  refine r_addN (r := i + 1) hx hb dL_law_1307 rfl ?_
  refine r_sld hx hb hX hbl hL hS (i := i + 1) (by omega) e1 dL_law_1308 ?_
  refine k_M (va_runV (As := [.int (nI q)]) (rest := []) hF (m_pairAt_0 l D cI cA am th n y q (x 9) hn9 hR.grp (Rel_pairAt hR hK30 hq hqt).1 (by obtain ⟨N, hN, eN⟩ := tl_few hR; rw [← (Rel_pairs hR hK30).2, eN, inB_lt hN]; rw [eN] at hqt; exact decide_eq_true ⟨nI_nn hq, hqt⟩) (Rel_pairAt hR hK30 hq hqt).2.1) (cwV 1 hts gL_law_X4_pairAt rfl rfl rfl (by decide +kernel) ⟨(Nat.le_of_ble_eq_true rfl), (Nat.le_of_ble_eq_true rfl)⟩) (k_pre hPm hKm hDm hT (k := 0) (by decide) mF_0 rfl) rfl rfl hl.1 rfl (lv_room (Nat.le_of_ble_eq_true rfl)) dL_law_1309 ⟨hroom.1, hroom.2⟩) hAm (fun H2 hPm hz hk9 => ?_)
  have hPo := lw_keep (fun j hj ⟨k, hk, eq⟩ => hdis j k hj hk eq) hP1 hk9
  have hS := lw_S hAm hS hz hk9
  refine r_topi (show _ = pW (tlS x n) n 152 (nI q) from (Rel_pairAt hR hK30 hq hqt).2.2.1.symm) ?_
  refine lv_istore (lv' := [(6, .int (pW (tlS x n) n 152 (nI q))), (5, .int (nI 0)), (0, .ref b0), (1, .ref (ad 0)), (2, .ref (am 0)), (3, .ref (ad 46)), (4, .int (nI i))]) hx hb dL_law_1312 hl (by decide) rfl (fun ls hl => ?_)
  refine lv_aload_n hx hb dL_law_1314 rfl (lv_at hl 4 rfl) ?_
  refine k_Ri (va_runV (As := []) (rest := []) hF (c_X4_thrown l D cI cA am _ _ _) (cwV 0 hts gL_law_X4_thrown rfl rfl rfl (by decide +kernel) ⟨(Nat.le_of_ble_eq_true rfl), (Nat.le_of_ble_eq_true rfl)⟩) (k_pre hPm hKm hDm hT (k := 0) (by decide) mF_0 rfl) rfl rfl hl.1 rfl (lv_room (Nat.le_of_ble_eq_true rfl)) dL_law_1315 ⟨hroom.1, hroom.2⟩) ?_
  refine lv_iload hx hb dL_law_1318 (lv_at hl 1 rfl) ?_
  refine r_ceqN (tgt := 1325) hx hb (by decide) (by decide) dL_law_1320 (by decide) (fun _ => ?_) (fun h => absurd rfl h)
  refine lv_iload hx hb dL_law_1325 (lv_at hl 1 rfl) ?_
  refine r_ifneN (a := 0) (tgt := 1342) hx hb (by decide) dL_law_1327 (by decide) (fun h => absurd rfl h) (fun _ => ?_)
  refine lv_aload_n hx hb dL_law_1330 rfl (lv_at hl 5 rfl) ?_
  refine lv_iconst (v := nI 0) hx hb dL_law_1331 (by decide) ?_
  refine va_lald hx hb hK hPo 46 2 (wl_at (show 46 < 47 by decide)) rfl (vp_in_nI (by decide) (by decide)) dL_law_1332 ?_
  rw [oW_0 (w := (pW (tlS x n) n 152 (nI q)).toInt64)]
  refine lv_iload hx hb dL_law_1333 (lv_at hl 0 rfl) ?_
  refine lv_i2l hx hb dL_law_1335 rfl ?_
  refine r_lcmpE hx hb dL_law_1336 ?_
  refine r_ifeqN (a := 0) (tgt := 1342) hx hb (by decide) dL_law_1337 (by decide) (fun _ => ?_) (fun h => absurd rfl h)
  refine lv_goto (tgt := 1441) hx hb dL_law_1342 (by decide) ?_
  exact kk _ _ _ _ _ _ _ _ (by omega) ⟨hPo, hPm, hS, (Rel_pairAt hR hK30 hq hqt).2.2.2⟩ (lv_sub hl [2, 3, 4, 5, 6] rfl)
set_option maxHeartbeats 4000000 in
set_option maxRecDepth 100000 in
theorem z_pairAt_Ta {p : Program} {l : Launch} {e : Env} {s : State} {m : MethodId} {below : List Frame} {meth : Method} {c9 : Code} {H : Heap} {cells slots : Nat} {Q : State → Prop} {ls : Array Slot} {D : va_G} {b0 L : Nat} {xs : Nat → Int32} {cI cA cL : ClassId} {ad am : Nat → Nat} {K n : Nat} {x y : Nat → Nat → Int32} {o : Nat → Int64} {th : Int32} {i : Nat} (C0 : lwC p l s m c9 b0 L xs D cI cA cL ad am) (S0 : lwS s D cI cA cL ad am K n x y o th H) (hK30 : K < 2 ^ 30) (hroom : cells + 1 ≤ room_1.cells ∧ slots + 6 ≤ room_1.slots) (hi : i + 4 < L) (hl : lv_has ls 7 [(0, .ref b0), (1, .ref (ad 0)), (2, .ref (am 0)), (3, .ref (ad 46)), (4, .int (nI i))]) (q : Int32) (hqt : ¬ (¬ q < 0 ∧ q < tlC x n)) (e1 : xs (i + 1) = q) (kk : ∀ (K' n' : Nat) (x' y' : Nat → Nat → Int32) (o' : Nat → Int64) (th' : Int32) (H' : Heap) (ls' : Array Slot), K' ≤ K + 216 → lwS s D cI cA cL ad am K' n' x' y' o' th' H' → lv_has ls' 7 [(0, .ref b0), (1, .ref (ad 0)), (2, .ref (am 0)), (3, .ref (ad 46)), (4, .int (nI i))] → W p l e room_1 s m #[Value.ref b0] below meth c9 H' [] (cells + 1) (slots + 6) Q (F0 m 1441 ls' [])) : W p l e room_1 s m #[Value.ref b0] below meth c9 H [] cells slots Q (F0 m 1289 ls []) := by
  obtain ⟨hx, hb, hF, hK, hDo, hDm, hdis, hT, hXF, hC, hlt, hX, hbl, hL⟩ := C0
  obtain ⟨hPo, hPm, hS, hR⟩ := S0
  have hn9 : n ≤ 24 := hR.n24
  have hn : n ≤ 24 := hn9
  have hts := hF.2.2.2.2
  have hKm := hK.sub (tys' := [(cI, .int), (cA, .array .int)]) [0, 1] rfl
  have hAo : ∀ q, wA ad 47 q → s.heap.size ≤ q := fun q ⟨k, hk, eq⟩ => by rw [eq]; exact hDo.2 k hk
  have hAm : ∀ q, wA am 8 q → s.heap.size ≤ q := fun q ⟨k, hk, eq⟩ => by rw [eq]; exact hDm.2 k hk
  refine lv_aload_n hx hb dL_law_1289 rfl (lv_at hl 1 rfl) ?_
  refine lv_aload_n hx hb dL_law_1290 rfl (lv_at hl 0 rfl) ?_
  refine lv_iload hx hb dL_law_1291 (lv_at hl 4 rfl) ?_
  refine lv_iconst (v := nI 1) hx hb dL_law_1293 (by decide) ?_
  refine r_addN (r := i + 1) hx hb dL_law_1294 rfl ?_
  refine r_sld hx hb hX hbl hL hS (i := i + 1) (by omega) e1 dL_law_1295 ?_
  refine lv_aload_n hx hb dL_law_1296 rfl (lv_at hl 3 rfl) ?_
  refine k_L (vx_runSW (As := [.ref (ad 0), .int q, .ref (ad 46)]) (rest := []) hF (w_pairAt_Ta l D cI cA ad n x q cL o hlt hn hqt) (vx_cwSW 3 hts gL_law_L_pairAt rfl rfl rfl (by decide +kernel) ⟨(Nat.le_of_ble_eq_true rfl), (Nat.le_of_ble_eq_true rfl)⟩) (lw_pre hK hDo hT hXF hC hPo hS) rfl rfl hl.1 rfl (lv_room (Nat.le_of_ble_eq_true rfl)) dL_law_1297 hroom) hAo (fun H1 hP1 hz hk9 => ?_)
  have hPm := lw_keep (fun j hj ⟨k, hk, eq⟩ => hdis k j hk hj eq.symm) hPm hk9
  have hS := lw_S hAo hS hz hk9
  refine lv_istore (lv' := [(5, .int (nI 1)), (0, .ref b0), (1, .ref (ad 0)), (2, .ref (am 0)), (3, .ref (ad 46)), (4, .int (nI i))]) hx hb dL_law_1300 hl (by decide) rfl (fun ls hl => ?_)
  refine lv_aload_n hx hb dL_law_1302 rfl (lv_at hl 3 rfl) ?_
  refine lv_aload_n hx hb dL_law_1303 rfl (lv_at hl 1 rfl) ?_
  refine lv_iload hx hb dL_law_1304 (lv_at hl 5 rfl) ?_
  refine lv_iconst (v := nI 1) hx hb dL_law_1306 (by decide) ?_
  refine r_addN (r := i + 1) hx hb dL_law_1307 rfl ?_
  refine r_sld hx hb hX hbl hL hS (i := i + 1) (by omega) e1 dL_law_1308 ?_
  refine k_M (va_runV (As := [.int q]) (rest := []) hF (m_pairAt_1 l D cI cA am th n y q (x 9) hn9 hR.grp (by obtain ⟨N, hN, eN⟩ := tl_few hR; rw [← (Rel_pairs hR hK30).2, eN, inB_lt hN]; rw [eN] at hqt; exact decide_eq_false hqt)) (cwV 1 hts gL_law_X4_pairAt rfl rfl rfl (by decide +kernel) ⟨(Nat.le_of_ble_eq_true rfl), (Nat.le_of_ble_eq_true rfl)⟩) (k_pre hPm hKm hDm hT (k := 0) (by decide) mF_0 rfl) rfl rfl hl.1 rfl (lv_room (Nat.le_of_ble_eq_true rfl)) dL_law_1309 ⟨hroom.1, hroom.2⟩) hAm (fun H2 hPm hz hk9 => ?_)
  have hPo := lw_keep (fun j hj ⟨k, hk, eq⟩ => hdis j k hj hk eq) hP1 hk9
  have hS := lw_S hAm hS hz hk9
  refine lv_istore (lv' := [(6, .int (nI 0)), (5, .int (nI 1)), (0, .ref b0), (1, .ref (ad 0)), (2, .ref (am 0)), (3, .ref (ad 46)), (4, .int (nI i))]) hx hb dL_law_1312 hl (by decide) rfl (fun ls hl => ?_)
  refine lv_aload_n hx hb dL_law_1314 rfl (lv_at hl 4 rfl) ?_
  refine k_Ri (va_runV (As := []) (rest := []) hF (c_X4_thrown l D cI cA am _ _ _) (cwV 0 hts gL_law_X4_thrown rfl rfl rfl (by decide +kernel) ⟨(Nat.le_of_ble_eq_true rfl), (Nat.le_of_ble_eq_true rfl)⟩) (k_pre hPm hKm hDm hT (k := 0) (by decide) mF_0 rfl) rfl rfl hl.1 rfl (lv_room (Nat.le_of_ble_eq_true rfl)) dL_law_1315 ⟨hroom.1, hroom.2⟩) ?_
  refine lv_iload hx hb dL_law_1318 (lv_at hl 1 rfl) ?_
  refine r_ceqN (tgt := 1325) hx hb (by decide) (by decide) dL_law_1320 (by decide) (fun _ => ?_) (fun h => absurd rfl h)
  refine lv_iload hx hb dL_law_1325 (lv_at hl 1 rfl) ?_
  refine r_ifneN (a := 1) (tgt := 1342) hx hb (by decide) dL_law_1327 (by decide) (fun _ => ?_) (fun h => absurd h (by decide))
  refine lv_goto (tgt := 1441) hx hb dL_law_1342 (by decide) ?_
  exact kk _ _ _ _ _ _ _ _ (by omega) ⟨hPo, hPm, hS, (Rel_pairs hR hK30).1⟩ (lv_sub hl [2, 3, 4, 5, 6] rfl)
set_option maxHeartbeats 4000000 in
set_option maxRecDepth 100000 in
theorem z_turnDown_g {p : Program} {l : Launch} {e : Env} {s : State} {m : MethodId} {below : List Frame} {meth : Method} {c9 : Code} {H : Heap} {cells slots : Nat} {Q : State → Prop} {ls : Array Slot} {D : va_G} {b0 L : Nat} {xs : Nat → Int32} {cI cA cL : ClassId} {ad am : Nat → Nat} {K n : Nat} {x y : Nat → Nat → Int32} {o : Nat → Int64} {th : Int32} {i : Nat} (C0 : lwC p l s m c9 b0 L xs D cI cA cL ad am) (S0 : lwS s D cI cA cL ad am K n x y o th H) (hK30 : K < 2 ^ 30) (hroom : cells + 1 ≤ room_1.cells ∧ slots + 6 ≤ room_1.slots) (hi : i + 4 < L) (hl : lv_has ls 7 [(0, .ref b0), (1, .ref (ad 0)), (2, .ref (am 0)), (3, .ref (ad 46)), (4, .int (nI i))]) (c : Nat) (d : Nat) (hc : c < n) (hd : d < n) (hne : c ≠ d) (hsg : ¬ sg x c d = 0) (e1 : xs (i + 1) = nI c) (e2 : xs (i + 2) = nI d) (e3 : decide (xs (i + 3) ≠ 0) = true) (kk : ∀ (K' n' : Nat) (x' y' : Nat → Nat → Int32) (o' : Nat → Int64) (th' : Int32) (H' : Heap) (ls' : Array Slot), K' ≤ K + 216 → lwS s D cI cA cL ad am K' n' x' y' o' th' H' → lv_has ls' 7 [(0, .ref b0), (1, .ref (ad 0)), (2, .ref (am 0)), (3, .ref (ad 46)), (4, .int (nI i))] → W p l e room_1 s m #[Value.ref b0] below meth c9 H' [] (cells + 1) (slots + 6) Q (F0 m 1441 ls' [])) : W p l e room_1 s m #[Value.ref b0] below meth c9 H [] cells slots Q (F0 m 1345 ls []) := by
  obtain ⟨hx, hb, hF, hK, hDo, hDm, hdis, hT, hXF, hC, hlt, hX, hbl, hL⟩ := C0
  obtain ⟨hPo, hPm, hS, hR⟩ := S0
  have hn9 : n ≤ 24 := hR.n24
  have hn : n ≤ 24 := hn9
  have hts := hF.2.2.2.2
  have hKm := hK.sub (tys' := [(cI, .int), (cA, .array .int)]) [0, 1] rfl
  have hAo : ∀ q, wA ad 47 q → s.heap.size ≤ q := fun q ⟨k, hk, eq⟩ => by rw [eq]; exact hDo.2 k hk
  have hAm : ∀ q, wA am 8 q → s.heap.size ≤ q := fun q ⟨k, hk, eq⟩ => by rw [eq]; exact hDm.2 k hk
  refine lv_aload_n hx hb dL_law_1345 rfl (lv_at hl 1 rfl) ?_
  refine lv_aload_n hx hb dL_law_1346 rfl (lv_at hl 0 rfl) ?_
  refine lv_iload hx hb dL_law_1347 (lv_at hl 4 rfl) ?_
  refine lv_iconst (v := nI 1) hx hb dL_law_1349 (by decide) ?_
  refine r_addN (r := i + 1) hx hb dL_law_1350 rfl ?_
  refine r_sld hx hb hX hbl hL hS (i := i + 1) (by omega) e1 dL_law_1351 ?_
  refine lv_aload_n hx hb dL_law_1352 rfl (lv_at hl 0 rfl) ?_
  refine lv_iload hx hb dL_law_1353 (lv_at hl 4 rfl) ?_
  refine lv_iconst (v := nI 2) hx hb dL_law_1355 (by decide) ?_
  refine r_addN (r := i + 2) hx hb dL_law_1356 rfl ?_
  refine r_sld hx hb hX hbl hL hS (i := i + 2) (by omega) e2 dL_law_1357 ?_
  refine lv_aload_n hx hb dL_law_1358 rfl (lv_at hl 0 rfl) ?_
  refine lv_iload hx hb dL_law_1359 (lv_at hl 4 rfl) ?_
  refine lv_iconst (v := nI 3) hx hb dL_law_1361 (by decide) ?_
  refine r_addN (r := i + 3) hx hb dL_law_1362 rfl ?_
  refine r_sld hx hb hX hbl hL hS (i := i + 3) (by omega) (v := xs (i + 3)) rfl dL_law_1363 ?_
  refine r_nz (T0 := 1371) (J := 1372) hx hb e3 dL_law_1364 (by decide) dL_law_1367 dL_law_1368 (by decide) dL_law_1371 rfl ?_
  refine lv_aload_n hx hb dL_law_1372 rfl (lv_at hl 3 rfl) ?_
  refine k_L (vx_runSW (As := [.ref (ad 0), .int (nI c), .int (nI d), .int (bI true), .ref (ad 46)]) (rest := []) hF (w_turnDown_g l D cI cA ad n x c d cL o hc hd hne hn hsg) (vx_cwSW 5 hts gL_law_L_turnDown rfl rfl rfl (by decide +kernel) ⟨(Nat.le_of_ble_eq_true rfl), (Nat.le_of_ble_eq_true rfl)⟩) (lw_pre hK hDo hT hXF hC hPo hS) rfl rfl hl.1 rfl (lv_room (Nat.le_of_ble_eq_true rfl)) dL_law_1373 hroom) hAo (fun H1 hP1 hz hk9 => ?_)
  have hPm := lw_keep (fun j hj ⟨k, hk, eq⟩ => hdis k j hk hj eq.symm) hPm hk9
  have hS := lw_S hAo hS hz hk9
  refine lv_istore (lv' := [(5, .int (nI 0)), (0, .ref b0), (1, .ref (ad 0)), (2, .ref (am 0)), (3, .ref (ad 46)), (4, .int (nI i))]) hx hb dL_law_1376 hl (by decide) rfl (fun ls hl => ?_)
  refine lv_aload_n hx hb dL_law_1378 rfl (lv_at hl 3 rfl) ?_
  refine lv_aload_n hx hb dL_law_1379 rfl (lv_at hl 1 rfl) ?_
  refine lv_iload hx hb dL_law_1380 (lv_at hl 5 rfl) ?_
  refine lv_iconst (v := nI 1) hx hb dL_law_1382 (by decide) ?_
  refine r_addN (r := i + 1) hx hb dL_law_1383 rfl ?_
  refine r_sld hx hb hX hbl hL hS (i := i + 1) (by omega) e1 dL_law_1384 ?_
  refine lv_aload_n hx hb dL_law_1385 rfl (lv_at hl 1 rfl) ?_
  refine lv_iload hx hb dL_law_1386 (lv_at hl 5 rfl) ?_
  refine lv_iconst (v := nI 2) hx hb dL_law_1388 (by decide) ?_
  refine r_addN (r := i + 2) hx hb dL_law_1389 rfl ?_
  refine r_sld hx hb hX hbl hL hS (i := i + 2) (by omega) e2 dL_law_1390 ?_
  refine lv_aload_n hx hb dL_law_1391 rfl (lv_at hl 1 rfl) ?_
  refine lv_iload hx hb dL_law_1392 (lv_at hl 5 rfl) ?_
  refine lv_iconst (v := nI 3) hx hb dL_law_1394 (by decide) ?_
  refine r_addN (r := i + 3) hx hb dL_law_1395 rfl ?_
  refine r_sld hx hb hX hbl hL hS (i := i + 3) (by omega) (v := xs (i + 3)) rfl dL_law_1396 ?_
  refine r_nz (T0 := 1404) (J := 1405) hx hb e3 dL_law_1397 (by decide) dL_law_1400 dL_law_1401 (by decide) dL_law_1404 rfl ?_
  refine k_M (va_runV (As := [.int (nI c), .int (nI d), .int (bI true)]) (rest := []) hF (m_turnDown_g l D cI cA am th n y c d (x 9) hc hd hne hn9 hR.grp (by rw [hR.sug hK30 hc hd]; exact decide_eq_true hsg)) (cwV 3 hts gL_law_X4_turnDown rfl rfl rfl (by decide +kernel) ⟨(Nat.le_of_ble_eq_true rfl), (Nat.le_of_ble_eq_true rfl)⟩) (k_pre hPm hKm hDm hT (k := 0) (by decide) mF_0 rfl) rfl rfl hl.1 rfl (lv_room (Nat.le_of_ble_eq_true rfl)) dL_law_1405 ⟨hroom.1, hroom.2⟩) hAm (fun H2 hPm hz hk9 => ?_)
  have hPo := lw_keep (fun j hj ⟨k, hk, eq⟩ => hdis j k hj hk eq) hP1 hk9
  have hS := lw_S hAm hS hz hk9
  refine r_topi (show _ = tlC (rfgX x c d) n from (by have q := (Rel_pairs (Rel_rfg hR hc hd hne) hK30).2; rw [rfg_9] at q; exact q.symm)) ?_
  refine lv_istore (lv' := [(6, .int (tlC (rfgX x c d) n)), (5, .int (nI 0)), (0, .ref b0), (1, .ref (ad 0)), (2, .ref (am 0)), (3, .ref (ad 46)), (4, .int (nI i))]) hx hb dL_law_1408 hl (by decide) rfl (fun ls hl => ?_)
  refine lv_aload_n hx hb dL_law_1410 rfl (lv_at hl 4 rfl) ?_
  refine k_Ri (va_runV (As := []) (rest := []) hF (c_X4_thrown l D cI cA am _ _ _) (cwV 0 hts gL_law_X4_thrown rfl rfl rfl (by decide +kernel) ⟨(Nat.le_of_ble_eq_true rfl), (Nat.le_of_ble_eq_true rfl)⟩) (k_pre hPm hKm hDm hT (k := 0) (by decide) mF_0 rfl) rfl rfl hl.1 rfl (lv_room (Nat.le_of_ble_eq_true rfl)) dL_law_1411 ⟨hroom.1, hroom.2⟩) ?_
  refine lv_iload hx hb dL_law_1414 (lv_at hl 1 rfl) ?_
  refine r_ceqN (tgt := 1421) hx hb (by decide) (by decide) dL_law_1416 (by decide) (fun _ => ?_) (fun h => absurd rfl h)
  refine lv_iload hx hb dL_law_1421 (lv_at hl 1 rfl) ?_
  refine r_ifneN (a := 0) (tgt := 1438) hx hb (by decide) dL_law_1423 (by decide) (fun h => absurd rfl h) (fun _ => ?_)
  refine lv_aload_n hx hb dL_law_1426 rfl (lv_at hl 5 rfl) ?_
  refine lv_iconst (v := nI 0) hx hb dL_law_1427 (by decide) ?_
  refine va_lald hx hb hK hPo 46 2 (wl_at (show 46 < 47 by decide)) rfl (vp_in_nI (by decide) (by decide)) dL_law_1428 ?_
  rw [oW_0 (w := (tlC (rfgX x c d) n).toInt64)]
  refine lv_iload hx hb dL_law_1429 (lv_at hl 0 rfl) ?_
  refine lv_i2l hx hb dL_law_1431 rfl ?_
  refine r_lcmpE hx hb dL_law_1432 ?_
  refine r_ifeqN (a := 0) (tgt := 1438) hx hb (by decide) dL_law_1433 (by decide) (fun _ => ?_) (fun h => absurd rfl h)
  refine lv_goto (tgt := 1441) hx hb dL_law_1438 (by decide) ?_
  exact kk K _ _ _ _ _ _ _ (by omega) ⟨hPo, hPm, hS, (by have q := (Rel_pairs (Rel_rfg hR hc hd hne) hK30).1; rw [rfg_9] at q; exact q)⟩ (lv_sub hl [2, 3, 4, 5, 6] rfl)
set_option maxHeartbeats 4000000 in
set_option maxRecDepth 100000 in
theorem z_turnDown_n {p : Program} {l : Launch} {e : Env} {s : State} {m : MethodId} {below : List Frame} {meth : Method} {c9 : Code} {H : Heap} {cells slots : Nat} {Q : State → Prop} {ls : Array Slot} {D : va_G} {b0 L : Nat} {xs : Nat → Int32} {cI cA cL : ClassId} {ad am : Nat → Nat} {K n : Nat} {x y : Nat → Nat → Int32} {o : Nat → Int64} {th : Int32} {i : Nat} (C0 : lwC p l s m c9 b0 L xs D cI cA cL ad am) (S0 : lwS s D cI cA cL ad am K n x y o th H) (hK30 : K < 2 ^ 30) (hroom : cells + 1 ≤ room_1.cells ∧ slots + 6 ≤ room_1.slots) (hi : i + 4 < L) (hl : lv_has ls 7 [(0, .ref b0), (1, .ref (ad 0)), (2, .ref (am 0)), (3, .ref (ad 46)), (4, .int (nI i))]) (c : Nat) (d : Nat) (hc : c < n) (hd : d < n) (hne : c ≠ d) (hsg : ¬ sg x c d = 0) (e1 : xs (i + 1) = nI c) (e2 : xs (i + 2) = nI d) (e3 : decide (xs (i + 3) ≠ 0) = false) (kk : ∀ (K' n' : Nat) (x' y' : Nat → Nat → Int32) (o' : Nat → Int64) (th' : Int32) (H' : Heap) (ls' : Array Slot), K' ≤ K + 216 → lwS s D cI cA cL ad am K' n' x' y' o' th' H' → lv_has ls' 7 [(0, .ref b0), (1, .ref (ad 0)), (2, .ref (am 0)), (3, .ref (ad 46)), (4, .int (nI i))] → W p l e room_1 s m #[Value.ref b0] below meth c9 H' [] (cells + 1) (slots + 6) Q (F0 m 1441 ls' [])) : W p l e room_1 s m #[Value.ref b0] below meth c9 H [] cells slots Q (F0 m 1345 ls []) := by
  obtain ⟨hx, hb, hF, hK, hDo, hDm, hdis, hT, hXF, hC, hlt, hX, hbl, hL⟩ := C0
  obtain ⟨hPo, hPm, hS, hR⟩ := S0
  have hn9 : n ≤ 24 := hR.n24
  have hn : n ≤ 24 := hn9
  have hts := hF.2.2.2.2
  have hKm := hK.sub (tys' := [(cI, .int), (cA, .array .int)]) [0, 1] rfl
  have hAo : ∀ q, wA ad 47 q → s.heap.size ≤ q := fun q ⟨k, hk, eq⟩ => by rw [eq]; exact hDo.2 k hk
  have hAm : ∀ q, wA am 8 q → s.heap.size ≤ q := fun q ⟨k, hk, eq⟩ => by rw [eq]; exact hDm.2 k hk
  refine lv_aload_n hx hb dL_law_1345 rfl (lv_at hl 1 rfl) ?_
  refine lv_aload_n hx hb dL_law_1346 rfl (lv_at hl 0 rfl) ?_
  refine lv_iload hx hb dL_law_1347 (lv_at hl 4 rfl) ?_
  refine lv_iconst (v := nI 1) hx hb dL_law_1349 (by decide) ?_
  refine r_addN (r := i + 1) hx hb dL_law_1350 rfl ?_
  refine r_sld hx hb hX hbl hL hS (i := i + 1) (by omega) e1 dL_law_1351 ?_
  refine lv_aload_n hx hb dL_law_1352 rfl (lv_at hl 0 rfl) ?_
  refine lv_iload hx hb dL_law_1353 (lv_at hl 4 rfl) ?_
  refine lv_iconst (v := nI 2) hx hb dL_law_1355 (by decide) ?_
  refine r_addN (r := i + 2) hx hb dL_law_1356 rfl ?_
  refine r_sld hx hb hX hbl hL hS (i := i + 2) (by omega) e2 dL_law_1357 ?_
  refine lv_aload_n hx hb dL_law_1358 rfl (lv_at hl 0 rfl) ?_
  refine lv_iload hx hb dL_law_1359 (lv_at hl 4 rfl) ?_
  refine lv_iconst (v := nI 3) hx hb dL_law_1361 (by decide) ?_
  refine r_addN (r := i + 3) hx hb dL_law_1362 rfl ?_
  refine r_sld hx hb hX hbl hL hS (i := i + 3) (by omega) (v := xs (i + 3)) rfl dL_law_1363 ?_
  refine r_nz (T0 := 1371) (J := 1372) hx hb e3 dL_law_1364 (by decide) dL_law_1367 dL_law_1368 (by decide) dL_law_1371 rfl ?_
  refine lv_aload_n hx hb dL_law_1372 rfl (lv_at hl 3 rfl) ?_
  refine k_L (vx_runSW (As := [.ref (ad 0), .int (nI c), .int (nI d), .int (bI false), .ref (ad 46)]) (rest := []) hF (w_turnDown_n l D cI cA ad n x c d cL o hc hd hne hn hsg) (vx_cwSW 5 hts gL_law_L_turnDown rfl rfl rfl (by decide +kernel) ⟨(Nat.le_of_ble_eq_true rfl), (Nat.le_of_ble_eq_true rfl)⟩) (lw_pre hK hDo hT hXF hC hPo hS) rfl rfl hl.1 rfl (lv_room (Nat.le_of_ble_eq_true rfl)) dL_law_1373 hroom) hAo (fun H1 hP1 hz hk9 => ?_)
  have hPm := lw_keep (fun j hj ⟨k, hk, eq⟩ => hdis k j hk hj eq.symm) hPm hk9
  have hS := lw_S hAo hS hz hk9
  refine lv_istore (lv' := [(5, .int (nI 0)), (0, .ref b0), (1, .ref (ad 0)), (2, .ref (am 0)), (3, .ref (ad 46)), (4, .int (nI i))]) hx hb dL_law_1376 hl (by decide) rfl (fun ls hl => ?_)
  refine lv_aload_n hx hb dL_law_1378 rfl (lv_at hl 3 rfl) ?_
  refine lv_aload_n hx hb dL_law_1379 rfl (lv_at hl 1 rfl) ?_
  refine lv_iload hx hb dL_law_1380 (lv_at hl 5 rfl) ?_
  refine lv_iconst (v := nI 1) hx hb dL_law_1382 (by decide) ?_
  refine r_addN (r := i + 1) hx hb dL_law_1383 rfl ?_
  refine r_sld hx hb hX hbl hL hS (i := i + 1) (by omega) e1 dL_law_1384 ?_
  refine lv_aload_n hx hb dL_law_1385 rfl (lv_at hl 1 rfl) ?_
  refine lv_iload hx hb dL_law_1386 (lv_at hl 5 rfl) ?_
  refine lv_iconst (v := nI 2) hx hb dL_law_1388 (by decide) ?_
  refine r_addN (r := i + 2) hx hb dL_law_1389 rfl ?_
  refine r_sld hx hb hX hbl hL hS (i := i + 2) (by omega) e2 dL_law_1390 ?_
  refine lv_aload_n hx hb dL_law_1391 rfl (lv_at hl 1 rfl) ?_
  refine lv_iload hx hb dL_law_1392 (lv_at hl 5 rfl) ?_
  refine lv_iconst (v := nI 3) hx hb dL_law_1394 (by decide) ?_
  refine r_addN (r := i + 3) hx hb dL_law_1395 rfl ?_
  refine r_sld hx hb hX hbl hL hS (i := i + 3) (by omega) (v := xs (i + 3)) rfl dL_law_1396 ?_
  refine r_nz (T0 := 1404) (J := 1405) hx hb e3 dL_law_1397 (by decide) dL_law_1400 dL_law_1401 (by decide) dL_law_1404 rfl ?_
  refine k_M (va_runV (As := [.int (nI c), .int (nI d), .int (bI false)]) (rest := []) hF (m_turnDown_n l D cI cA am th n y c d (x 9) hc hd hne hn9 hR.grp (by rw [hR.sug hK30 hc hd]; exact decide_eq_true hsg)) (cwV 3 hts gL_law_X4_turnDown rfl rfl rfl (by decide +kernel) ⟨(Nat.le_of_ble_eq_true rfl), (Nat.le_of_ble_eq_true rfl)⟩) (k_pre hPm hKm hDm hT (k := 0) (by decide) mF_0 rfl) rfl rfl hl.1 rfl (lv_room (Nat.le_of_ble_eq_true rfl)) dL_law_1405 ⟨hroom.1, hroom.2⟩) hAm (fun H2 hPm hz hk9 => ?_)
  have hPo := lw_keep (fun j hj ⟨k, hk, eq⟩ => hdis j k hj hk eq) hP1 hk9
  have hS := lw_S hAm hS hz hk9
  refine r_topi (show _ = tlC (rfnX x c d (mcOf x c d)) n from (by have q := (Rel_pairs (Rel_rfn hR hc hd hne) hK30).2; rw [rfn_9] at q; exact q.symm)) ?_
  refine lv_istore (lv' := [(6, .int (tlC (rfnX x c d (mcOf x c d)) n)), (5, .int (nI 0)), (0, .ref b0), (1, .ref (ad 0)), (2, .ref (am 0)), (3, .ref (ad 46)), (4, .int (nI i))]) hx hb dL_law_1408 hl (by decide) rfl (fun ls hl => ?_)
  refine lv_aload_n hx hb dL_law_1410 rfl (lv_at hl 4 rfl) ?_
  refine k_Ri (va_runV (As := []) (rest := []) hF (c_X4_thrown l D cI cA am _ _ _) (cwV 0 hts gL_law_X4_thrown rfl rfl rfl (by decide +kernel) ⟨(Nat.le_of_ble_eq_true rfl), (Nat.le_of_ble_eq_true rfl)⟩) (k_pre hPm hKm hDm hT (k := 0) (by decide) mF_0 rfl) rfl rfl hl.1 rfl (lv_room (Nat.le_of_ble_eq_true rfl)) dL_law_1411 ⟨hroom.1, hroom.2⟩) ?_
  refine lv_iload hx hb dL_law_1414 (lv_at hl 1 rfl) ?_
  refine r_ceqN (tgt := 1421) hx hb (by decide) (by decide) dL_law_1416 (by decide) (fun _ => ?_) (fun h => absurd rfl h)
  refine lv_iload hx hb dL_law_1421 (lv_at hl 1 rfl) ?_
  refine r_ifneN (a := 0) (tgt := 1438) hx hb (by decide) dL_law_1423 (by decide) (fun h => absurd rfl h) (fun _ => ?_)
  refine lv_aload_n hx hb dL_law_1426 rfl (lv_at hl 5 rfl) ?_
  refine lv_iconst (v := nI 0) hx hb dL_law_1427 (by decide) ?_
  refine va_lald hx hb hK hPo 46 2 (wl_at (show 46 < 47 by decide)) rfl (vp_in_nI (by decide) (by decide)) dL_law_1428 ?_
  rw [oW_0 (w := (tlC (rfnX x c d (mcOf x c d)) n).toInt64)]
  refine lv_iload hx hb dL_law_1429 (lv_at hl 0 rfl) ?_
  refine lv_i2l hx hb dL_law_1431 rfl ?_
  refine r_lcmpE hx hb dL_law_1432 ?_
  refine r_ifeqN (a := 0) (tgt := 1438) hx hb (by decide) dL_law_1433 (by decide) (fun _ => ?_) (fun h => absurd rfl h)
  refine lv_goto (tgt := 1441) hx hb dL_law_1438 (by decide) ?_
  exact kk K _ _ _ _ _ _ _ (by omega) ⟨hPo, hPm, hS, (by have q := (Rel_pairs (Rel_rfn hR hc hd hne) hK30).1; rw [rfn_9] at q; exact q)⟩ (lv_sub hl [2, 3, 4, 5, 6] rfl)
set_option maxHeartbeats 4000000 in
set_option maxRecDepth 100000 in
theorem z_turnDown_Ta {p : Program} {l : Launch} {e : Env} {s : State} {m : MethodId} {below : List Frame} {meth : Method} {c9 : Code} {H : Heap} {cells slots : Nat} {Q : State → Prop} {ls : Array Slot} {D : va_G} {b0 L : Nat} {xs : Nat → Int32} {cI cA cL : ClassId} {ad am : Nat → Nat} {K n : Nat} {x y : Nat → Nat → Int32} {o : Nat → Int64} {th : Int32} {i : Nat} (C0 : lwC p l s m c9 b0 L xs D cI cA cL ad am) (S0 : lwS s D cI cA cL ad am K n x y o th H) (hK30 : K < 2 ^ 30) (hroom : cells + 1 ≤ room_1.cells ∧ slots + 6 ≤ room_1.slots) (hi : i + 4 < L) (hl : lv_has ls 7 [(0, .ref b0), (1, .ref (ad 0)), (2, .ref (am 0)), (3, .ref (ad 46)), (4, .int (nI i))]) (a : Int32) (b : Int32) (g : Bool) (hca : cardB n a = false) (e1 : xs (i + 1) = a) (e2 : xs (i + 2) = b) (e3 : decide (xs (i + 3) ≠ 0) = g) (kk : ∀ (K' n' : Nat) (x' y' : Nat → Nat → Int32) (o' : Nat → Int64) (th' : Int32) (H' : Heap) (ls' : Array Slot), K' ≤ K + 216 → lwS s D cI cA cL ad am K' n' x' y' o' th' H' → lv_has ls' 7 [(0, .ref b0), (1, .ref (ad 0)), (2, .ref (am 0)), (3, .ref (ad 46)), (4, .int (nI i))] → W p l e room_1 s m #[Value.ref b0] below meth c9 H' [] (cells + 1) (slots + 6) Q (F0 m 1441 ls' [])) : W p l e room_1 s m #[Value.ref b0] below meth c9 H [] cells slots Q (F0 m 1345 ls []) := by
  obtain ⟨hx, hb, hF, hK, hDo, hDm, hdis, hT, hXF, hC, hlt, hX, hbl, hL⟩ := C0
  obtain ⟨hPo, hPm, hS, hR⟩ := S0
  have hn9 : n ≤ 24 := hR.n24
  have hn : n ≤ 24 := hn9
  have hts := hF.2.2.2.2
  have hKm := hK.sub (tys' := [(cI, .int), (cA, .array .int)]) [0, 1] rfl
  have hAo : ∀ q, wA ad 47 q → s.heap.size ≤ q := fun q ⟨k, hk, eq⟩ => by rw [eq]; exact hDo.2 k hk
  have hAm : ∀ q, wA am 8 q → s.heap.size ≤ q := fun q ⟨k, hk, eq⟩ => by rw [eq]; exact hDm.2 k hk
  refine lv_aload_n hx hb dL_law_1345 rfl (lv_at hl 1 rfl) ?_
  refine lv_aload_n hx hb dL_law_1346 rfl (lv_at hl 0 rfl) ?_
  refine lv_iload hx hb dL_law_1347 (lv_at hl 4 rfl) ?_
  refine lv_iconst (v := nI 1) hx hb dL_law_1349 (by decide) ?_
  refine r_addN (r := i + 1) hx hb dL_law_1350 rfl ?_
  refine r_sld hx hb hX hbl hL hS (i := i + 1) (by omega) e1 dL_law_1351 ?_
  refine lv_aload_n hx hb dL_law_1352 rfl (lv_at hl 0 rfl) ?_
  refine lv_iload hx hb dL_law_1353 (lv_at hl 4 rfl) ?_
  refine lv_iconst (v := nI 2) hx hb dL_law_1355 (by decide) ?_
  refine r_addN (r := i + 2) hx hb dL_law_1356 rfl ?_
  refine r_sld hx hb hX hbl hL hS (i := i + 2) (by omega) e2 dL_law_1357 ?_
  refine lv_aload_n hx hb dL_law_1358 rfl (lv_at hl 0 rfl) ?_
  refine lv_iload hx hb dL_law_1359 (lv_at hl 4 rfl) ?_
  refine lv_iconst (v := nI 3) hx hb dL_law_1361 (by decide) ?_
  refine r_addN (r := i + 3) hx hb dL_law_1362 rfl ?_
  refine r_sld hx hb hX hbl hL hS (i := i + 3) (by omega) (v := xs (i + 3)) rfl dL_law_1363 ?_
  refine r_nz (T0 := 1371) (J := 1372) hx hb e3 dL_law_1364 (by decide) dL_law_1367 dL_law_1368 (by decide) dL_law_1371 rfl ?_
  refine lv_aload_n hx hb dL_law_1372 rfl (lv_at hl 3 rfl) ?_
  refine k_L (vx_runSW (As := [.ref (ad 0), .int a, .int b, .int (bI g), .ref (ad 46)]) (rest := []) hF (w_turnDown_Ta l D cI cA ad n x a b g cL o hlt hca) (vx_cwSW 5 hts gL_law_L_turnDown rfl rfl rfl (by decide +kernel) ⟨(Nat.le_of_ble_eq_true rfl), (Nat.le_of_ble_eq_true rfl)⟩) (lw_pre hK hDo hT hXF hC hPo hS) rfl rfl hl.1 rfl (lv_room (Nat.le_of_ble_eq_true rfl)) dL_law_1373 hroom) hAo (fun H1 hP1 hz hk9 => ?_)
  have hPm := lw_keep (fun j hj ⟨k, hk, eq⟩ => hdis k j hk hj eq.symm) hPm hk9
  have hS := lw_S hAo hS hz hk9
  refine lv_istore (lv' := [(5, .int (nI 1)), (0, .ref b0), (1, .ref (ad 0)), (2, .ref (am 0)), (3, .ref (ad 46)), (4, .int (nI i))]) hx hb dL_law_1376 hl (by decide) rfl (fun ls hl => ?_)
  refine lv_aload_n hx hb dL_law_1378 rfl (lv_at hl 3 rfl) ?_
  refine lv_aload_n hx hb dL_law_1379 rfl (lv_at hl 1 rfl) ?_
  refine lv_iload hx hb dL_law_1380 (lv_at hl 5 rfl) ?_
  refine lv_iconst (v := nI 1) hx hb dL_law_1382 (by decide) ?_
  refine r_addN (r := i + 1) hx hb dL_law_1383 rfl ?_
  refine r_sld hx hb hX hbl hL hS (i := i + 1) (by omega) e1 dL_law_1384 ?_
  refine lv_aload_n hx hb dL_law_1385 rfl (lv_at hl 1 rfl) ?_
  refine lv_iload hx hb dL_law_1386 (lv_at hl 5 rfl) ?_
  refine lv_iconst (v := nI 2) hx hb dL_law_1388 (by decide) ?_
  refine r_addN (r := i + 2) hx hb dL_law_1389 rfl ?_
  refine r_sld hx hb hX hbl hL hS (i := i + 2) (by omega) e2 dL_law_1390 ?_
  refine lv_aload_n hx hb dL_law_1391 rfl (lv_at hl 1 rfl) ?_
  refine lv_iload hx hb dL_law_1392 (lv_at hl 5 rfl) ?_
  refine lv_iconst (v := nI 3) hx hb dL_law_1394 (by decide) ?_
  refine r_addN (r := i + 3) hx hb dL_law_1395 rfl ?_
  refine r_sld hx hb hX hbl hL hS (i := i + 3) (by omega) (v := xs (i + 3)) rfl dL_law_1396 ?_
  refine r_nz (T0 := 1404) (J := 1405) hx hb e3 dL_law_1397 (by decide) dL_law_1400 dL_law_1401 (by decide) dL_law_1404 rfl ?_
  refine k_M (va_runV (As := [.int a, .int b, .int (bI g)]) (rest := []) hF (m_turnDown_1 l D cI cA am th n y a b g hn9 (by rw [hca]; rfl)) (cwV 3 hts gL_law_X4_turnDown rfl rfl rfl (by decide +kernel) ⟨(Nat.le_of_ble_eq_true rfl), (Nat.le_of_ble_eq_true rfl)⟩) (k_pre hPm hKm hDm hT (k := 0) (by decide) mF_0 rfl) rfl rfl hl.1 rfl (lv_room (Nat.le_of_ble_eq_true rfl)) dL_law_1405 ⟨hroom.1, hroom.2⟩) hAm (fun H2 hPm hz hk9 => ?_)
  have hPo := lw_keep (fun j hj ⟨k, hk, eq⟩ => hdis j k hj hk eq) hP1 hk9
  have hS := lw_S hAm hS hz hk9
  refine lv_istore (lv' := [(6, .int (nI 0)), (5, .int (nI 1)), (0, .ref b0), (1, .ref (ad 0)), (2, .ref (am 0)), (3, .ref (ad 46)), (4, .int (nI i))]) hx hb dL_law_1408 hl (by decide) rfl (fun ls hl => ?_)
  refine lv_aload_n hx hb dL_law_1410 rfl (lv_at hl 4 rfl) ?_
  refine k_Ri (va_runV (As := []) (rest := []) hF (c_X4_thrown l D cI cA am _ _ _) (cwV 0 hts gL_law_X4_thrown rfl rfl rfl (by decide +kernel) ⟨(Nat.le_of_ble_eq_true rfl), (Nat.le_of_ble_eq_true rfl)⟩) (k_pre hPm hKm hDm hT (k := 0) (by decide) mF_0 rfl) rfl rfl hl.1 rfl (lv_room (Nat.le_of_ble_eq_true rfl)) dL_law_1411 ⟨hroom.1, hroom.2⟩) ?_
  refine lv_iload hx hb dL_law_1414 (lv_at hl 1 rfl) ?_
  refine r_ceqN (tgt := 1421) hx hb (by decide) (by decide) dL_law_1416 (by decide) (fun _ => ?_) (fun h => absurd rfl h)
  refine lv_iload hx hb dL_law_1421 (lv_at hl 1 rfl) ?_
  refine r_ifneN (a := 1) (tgt := 1438) hx hb (by decide) dL_law_1423 (by decide) (fun _ => ?_) (fun h => absurd h (by decide))
  refine lv_goto (tgt := 1441) hx hb dL_law_1438 (by decide) ?_
  exact kk K _ _ _ _ _ _ _ (by omega) ⟨hPo, hPm, hS, hR⟩ (lv_sub hl [2, 3, 4, 5, 6] rfl)
set_option maxHeartbeats 4000000 in
set_option maxRecDepth 100000 in
theorem z_turnDown_Tb {p : Program} {l : Launch} {e : Env} {s : State} {m : MethodId} {below : List Frame} {meth : Method} {c9 : Code} {H : Heap} {cells slots : Nat} {Q : State → Prop} {ls : Array Slot} {D : va_G} {b0 L : Nat} {xs : Nat → Int32} {cI cA cL : ClassId} {ad am : Nat → Nat} {K n : Nat} {x y : Nat → Nat → Int32} {o : Nat → Int64} {th : Int32} {i : Nat} (C0 : lwC p l s m c9 b0 L xs D cI cA cL ad am) (S0 : lwS s D cI cA cL ad am K n x y o th H) (hK30 : K < 2 ^ 30) (hroom : cells + 1 ≤ room_1.cells ∧ slots + 6 ≤ room_1.slots) (hi : i + 4 < L) (hl : lv_has ls 7 [(0, .ref b0), (1, .ref (ad 0)), (2, .ref (am 0)), (3, .ref (ad 46)), (4, .int (nI i))]) (c : Nat) (b : Int32) (g : Bool) (hc : c < n) (hcb : cardB n b = false) (e1 : xs (i + 1) = nI c) (e2 : xs (i + 2) = b) (e3 : decide (xs (i + 3) ≠ 0) = g) (kk : ∀ (K' n' : Nat) (x' y' : Nat → Nat → Int32) (o' : Nat → Int64) (th' : Int32) (H' : Heap) (ls' : Array Slot), K' ≤ K + 216 → lwS s D cI cA cL ad am K' n' x' y' o' th' H' → lv_has ls' 7 [(0, .ref b0), (1, .ref (ad 0)), (2, .ref (am 0)), (3, .ref (ad 46)), (4, .int (nI i))] → W p l e room_1 s m #[Value.ref b0] below meth c9 H' [] (cells + 1) (slots + 6) Q (F0 m 1441 ls' [])) : W p l e room_1 s m #[Value.ref b0] below meth c9 H [] cells slots Q (F0 m 1345 ls []) := by
  obtain ⟨hx, hb, hF, hK, hDo, hDm, hdis, hT, hXF, hC, hlt, hX, hbl, hL⟩ := C0
  obtain ⟨hPo, hPm, hS, hR⟩ := S0
  have hn9 : n ≤ 24 := hR.n24
  have hn : n ≤ 24 := hn9
  have hts := hF.2.2.2.2
  have hKm := hK.sub (tys' := [(cI, .int), (cA, .array .int)]) [0, 1] rfl
  have hAo : ∀ q, wA ad 47 q → s.heap.size ≤ q := fun q ⟨k, hk, eq⟩ => by rw [eq]; exact hDo.2 k hk
  have hAm : ∀ q, wA am 8 q → s.heap.size ≤ q := fun q ⟨k, hk, eq⟩ => by rw [eq]; exact hDm.2 k hk
  refine lv_aload_n hx hb dL_law_1345 rfl (lv_at hl 1 rfl) ?_
  refine lv_aload_n hx hb dL_law_1346 rfl (lv_at hl 0 rfl) ?_
  refine lv_iload hx hb dL_law_1347 (lv_at hl 4 rfl) ?_
  refine lv_iconst (v := nI 1) hx hb dL_law_1349 (by decide) ?_
  refine r_addN (r := i + 1) hx hb dL_law_1350 rfl ?_
  refine r_sld hx hb hX hbl hL hS (i := i + 1) (by omega) e1 dL_law_1351 ?_
  refine lv_aload_n hx hb dL_law_1352 rfl (lv_at hl 0 rfl) ?_
  refine lv_iload hx hb dL_law_1353 (lv_at hl 4 rfl) ?_
  refine lv_iconst (v := nI 2) hx hb dL_law_1355 (by decide) ?_
  refine r_addN (r := i + 2) hx hb dL_law_1356 rfl ?_
  refine r_sld hx hb hX hbl hL hS (i := i + 2) (by omega) e2 dL_law_1357 ?_
  refine lv_aload_n hx hb dL_law_1358 rfl (lv_at hl 0 rfl) ?_
  refine lv_iload hx hb dL_law_1359 (lv_at hl 4 rfl) ?_
  refine lv_iconst (v := nI 3) hx hb dL_law_1361 (by decide) ?_
  refine r_addN (r := i + 3) hx hb dL_law_1362 rfl ?_
  refine r_sld hx hb hX hbl hL hS (i := i + 3) (by omega) (v := xs (i + 3)) rfl dL_law_1363 ?_
  refine r_nz (T0 := 1371) (J := 1372) hx hb e3 dL_law_1364 (by decide) dL_law_1367 dL_law_1368 (by decide) dL_law_1371 rfl ?_
  refine lv_aload_n hx hb dL_law_1372 rfl (lv_at hl 3 rfl) ?_
  refine k_L (vx_runSW (As := [.ref (ad 0), .int (nI c), .int b, .int (bI g), .ref (ad 46)]) (rest := []) hF (w_turnDown_Tb l D cI cA ad n x c b g cL o hlt hc hn hcb) (vx_cwSW 5 hts gL_law_L_turnDown rfl rfl rfl (by decide +kernel) ⟨(Nat.le_of_ble_eq_true rfl), (Nat.le_of_ble_eq_true rfl)⟩) (lw_pre hK hDo hT hXF hC hPo hS) rfl rfl hl.1 rfl (lv_room (Nat.le_of_ble_eq_true rfl)) dL_law_1373 hroom) hAo (fun H1 hP1 hz hk9 => ?_)
  have hPm := lw_keep (fun j hj ⟨k, hk, eq⟩ => hdis k j hk hj eq.symm) hPm hk9
  have hS := lw_S hAo hS hz hk9
  refine lv_istore (lv' := [(5, .int (nI 1)), (0, .ref b0), (1, .ref (ad 0)), (2, .ref (am 0)), (3, .ref (ad 46)), (4, .int (nI i))]) hx hb dL_law_1376 hl (by decide) rfl (fun ls hl => ?_)
  refine lv_aload_n hx hb dL_law_1378 rfl (lv_at hl 3 rfl) ?_
  refine lv_aload_n hx hb dL_law_1379 rfl (lv_at hl 1 rfl) ?_
  refine lv_iload hx hb dL_law_1380 (lv_at hl 5 rfl) ?_
  refine lv_iconst (v := nI 1) hx hb dL_law_1382 (by decide) ?_
  refine r_addN (r := i + 1) hx hb dL_law_1383 rfl ?_
  refine r_sld hx hb hX hbl hL hS (i := i + 1) (by omega) e1 dL_law_1384 ?_
  refine lv_aload_n hx hb dL_law_1385 rfl (lv_at hl 1 rfl) ?_
  refine lv_iload hx hb dL_law_1386 (lv_at hl 5 rfl) ?_
  refine lv_iconst (v := nI 2) hx hb dL_law_1388 (by decide) ?_
  refine r_addN (r := i + 2) hx hb dL_law_1389 rfl ?_
  refine r_sld hx hb hX hbl hL hS (i := i + 2) (by omega) e2 dL_law_1390 ?_
  refine lv_aload_n hx hb dL_law_1391 rfl (lv_at hl 1 rfl) ?_
  refine lv_iload hx hb dL_law_1392 (lv_at hl 5 rfl) ?_
  refine lv_iconst (v := nI 3) hx hb dL_law_1394 (by decide) ?_
  refine r_addN (r := i + 3) hx hb dL_law_1395 rfl ?_
  refine r_sld hx hb hX hbl hL hS (i := i + 3) (by omega) (v := xs (i + 3)) rfl dL_law_1396 ?_
  refine r_nz (T0 := 1404) (J := 1405) hx hb e3 dL_law_1397 (by decide) dL_law_1400 dL_law_1401 (by decide) dL_law_1404 rfl ?_
  refine k_M (va_runV (As := [.int (nI c), .int b, .int (bI g)]) (rest := []) hF (m_turnDown_1 l D cI cA am th n y (nI c) b g hn9 (by rw [hcb, Bool.and_false])) (cwV 3 hts gL_law_X4_turnDown rfl rfl rfl (by decide +kernel) ⟨(Nat.le_of_ble_eq_true rfl), (Nat.le_of_ble_eq_true rfl)⟩) (k_pre hPm hKm hDm hT (k := 0) (by decide) mF_0 rfl) rfl rfl hl.1 rfl (lv_room (Nat.le_of_ble_eq_true rfl)) dL_law_1405 ⟨hroom.1, hroom.2⟩) hAm (fun H2 hPm hz hk9 => ?_)
  have hPo := lw_keep (fun j hj ⟨k, hk, eq⟩ => hdis j k hj hk eq) hP1 hk9
  have hS := lw_S hAm hS hz hk9
  refine lv_istore (lv' := [(6, .int (nI 0)), (5, .int (nI 1)), (0, .ref b0), (1, .ref (ad 0)), (2, .ref (am 0)), (3, .ref (ad 46)), (4, .int (nI i))]) hx hb dL_law_1408 hl (by decide) rfl (fun ls hl => ?_)
  refine lv_aload_n hx hb dL_law_1410 rfl (lv_at hl 4 rfl) ?_
  refine k_Ri (va_runV (As := []) (rest := []) hF (c_X4_thrown l D cI cA am _ _ _) (cwV 0 hts gL_law_X4_thrown rfl rfl rfl (by decide +kernel) ⟨(Nat.le_of_ble_eq_true rfl), (Nat.le_of_ble_eq_true rfl)⟩) (k_pre hPm hKm hDm hT (k := 0) (by decide) mF_0 rfl) rfl rfl hl.1 rfl (lv_room (Nat.le_of_ble_eq_true rfl)) dL_law_1411 ⟨hroom.1, hroom.2⟩) ?_
  refine lv_iload hx hb dL_law_1414 (lv_at hl 1 rfl) ?_
  refine r_ceqN (tgt := 1421) hx hb (by decide) (by decide) dL_law_1416 (by decide) (fun _ => ?_) (fun h => absurd rfl h)
  refine lv_iload hx hb dL_law_1421 (lv_at hl 1 rfl) ?_
  refine r_ifneN (a := 1) (tgt := 1438) hx hb (by decide) dL_law_1423 (by decide) (fun _ => ?_) (fun h => absurd h (by decide))
  refine lv_goto (tgt := 1441) hx hb dL_law_1438 (by decide) ?_
  exact kk K _ _ _ _ _ _ _ (by omega) ⟨hPo, hPm, hS, hR⟩ (lv_sub hl [2, 3, 4, 5, 6] rfl)
set_option maxHeartbeats 4000000 in
set_option maxRecDepth 100000 in
theorem z_turnDown_Tc {p : Program} {l : Launch} {e : Env} {s : State} {m : MethodId} {below : List Frame} {meth : Method} {c9 : Code} {H : Heap} {cells slots : Nat} {Q : State → Prop} {ls : Array Slot} {D : va_G} {b0 L : Nat} {xs : Nat → Int32} {cI cA cL : ClassId} {ad am : Nat → Nat} {K n : Nat} {x y : Nat → Nat → Int32} {o : Nat → Int64} {th : Int32} {i : Nat} (C0 : lwC p l s m c9 b0 L xs D cI cA cL ad am) (S0 : lwS s D cI cA cL ad am K n x y o th H) (hK30 : K < 2 ^ 30) (hroom : cells + 1 ≤ room_1.cells ∧ slots + 6 ≤ room_1.slots) (hi : i + 4 < L) (hl : lv_has ls 7 [(0, .ref b0), (1, .ref (ad 0)), (2, .ref (am 0)), (3, .ref (ad 46)), (4, .int (nI i))]) (c : Nat) (g : Bool) (hc : c < n) (e1 : xs (i + 1) = nI c) (e2 : xs (i + 2) = nI c) (e3 : decide (xs (i + 3) ≠ 0) = g) (kk : ∀ (K' n' : Nat) (x' y' : Nat → Nat → Int32) (o' : Nat → Int64) (th' : Int32) (H' : Heap) (ls' : Array Slot), K' ≤ K + 216 → lwS s D cI cA cL ad am K' n' x' y' o' th' H' → lv_has ls' 7 [(0, .ref b0), (1, .ref (ad 0)), (2, .ref (am 0)), (3, .ref (ad 46)), (4, .int (nI i))] → W p l e room_1 s m #[Value.ref b0] below meth c9 H' [] (cells + 1) (slots + 6) Q (F0 m 1441 ls' [])) : W p l e room_1 s m #[Value.ref b0] below meth c9 H [] cells slots Q (F0 m 1345 ls []) := by
  obtain ⟨hx, hb, hF, hK, hDo, hDm, hdis, hT, hXF, hC, hlt, hX, hbl, hL⟩ := C0
  obtain ⟨hPo, hPm, hS, hR⟩ := S0
  have hn9 : n ≤ 24 := hR.n24
  have hn : n ≤ 24 := hn9
  have hts := hF.2.2.2.2
  have hKm := hK.sub (tys' := [(cI, .int), (cA, .array .int)]) [0, 1] rfl
  have hAo : ∀ q, wA ad 47 q → s.heap.size ≤ q := fun q ⟨k, hk, eq⟩ => by rw [eq]; exact hDo.2 k hk
  have hAm : ∀ q, wA am 8 q → s.heap.size ≤ q := fun q ⟨k, hk, eq⟩ => by rw [eq]; exact hDm.2 k hk
  refine lv_aload_n hx hb dL_law_1345 rfl (lv_at hl 1 rfl) ?_
  refine lv_aload_n hx hb dL_law_1346 rfl (lv_at hl 0 rfl) ?_
  refine lv_iload hx hb dL_law_1347 (lv_at hl 4 rfl) ?_
  refine lv_iconst (v := nI 1) hx hb dL_law_1349 (by decide) ?_
  refine r_addN (r := i + 1) hx hb dL_law_1350 rfl ?_
  refine r_sld hx hb hX hbl hL hS (i := i + 1) (by omega) e1 dL_law_1351 ?_
  refine lv_aload_n hx hb dL_law_1352 rfl (lv_at hl 0 rfl) ?_
  refine lv_iload hx hb dL_law_1353 (lv_at hl 4 rfl) ?_
  refine lv_iconst (v := nI 2) hx hb dL_law_1355 (by decide) ?_
  refine r_addN (r := i + 2) hx hb dL_law_1356 rfl ?_
  refine r_sld hx hb hX hbl hL hS (i := i + 2) (by omega) e2 dL_law_1357 ?_
  refine lv_aload_n hx hb dL_law_1358 rfl (lv_at hl 0 rfl) ?_
  refine lv_iload hx hb dL_law_1359 (lv_at hl 4 rfl) ?_
  refine lv_iconst (v := nI 3) hx hb dL_law_1361 (by decide) ?_
  refine r_addN (r := i + 3) hx hb dL_law_1362 rfl ?_
  refine r_sld hx hb hX hbl hL hS (i := i + 3) (by omega) (v := xs (i + 3)) rfl dL_law_1363 ?_
  refine r_nz (T0 := 1371) (J := 1372) hx hb e3 dL_law_1364 (by decide) dL_law_1367 dL_law_1368 (by decide) dL_law_1371 rfl ?_
  refine lv_aload_n hx hb dL_law_1372 rfl (lv_at hl 3 rfl) ?_
  refine k_L (vx_runSW (As := [.ref (ad 0), .int (nI c), .int (nI c), .int (bI g), .ref (ad 46)]) (rest := []) hF (w_turnDown_Tc l D cI cA ad n x c g cL o hlt hc hn) (vx_cwSW 5 hts gL_law_L_turnDown rfl rfl rfl (by decide +kernel) ⟨(Nat.le_of_ble_eq_true rfl), (Nat.le_of_ble_eq_true rfl)⟩) (lw_pre hK hDo hT hXF hC hPo hS) rfl rfl hl.1 rfl (lv_room (Nat.le_of_ble_eq_true rfl)) dL_law_1373 hroom) hAo (fun H1 hP1 hz hk9 => ?_)
  have hPm := lw_keep (fun j hj ⟨k, hk, eq⟩ => hdis k j hk hj eq.symm) hPm hk9
  have hS := lw_S hAo hS hz hk9
  refine lv_istore (lv' := [(5, .int (nI 2)), (0, .ref b0), (1, .ref (ad 0)), (2, .ref (am 0)), (3, .ref (ad 46)), (4, .int (nI i))]) hx hb dL_law_1376 hl (by decide) rfl (fun ls hl => ?_)
  refine lv_aload_n hx hb dL_law_1378 rfl (lv_at hl 3 rfl) ?_
  refine lv_aload_n hx hb dL_law_1379 rfl (lv_at hl 1 rfl) ?_
  refine lv_iload hx hb dL_law_1380 (lv_at hl 5 rfl) ?_
  refine lv_iconst (v := nI 1) hx hb dL_law_1382 (by decide) ?_
  refine r_addN (r := i + 1) hx hb dL_law_1383 rfl ?_
  refine r_sld hx hb hX hbl hL hS (i := i + 1) (by omega) e1 dL_law_1384 ?_
  refine lv_aload_n hx hb dL_law_1385 rfl (lv_at hl 1 rfl) ?_
  refine lv_iload hx hb dL_law_1386 (lv_at hl 5 rfl) ?_
  refine lv_iconst (v := nI 2) hx hb dL_law_1388 (by decide) ?_
  refine r_addN (r := i + 2) hx hb dL_law_1389 rfl ?_
  refine r_sld hx hb hX hbl hL hS (i := i + 2) (by omega) e2 dL_law_1390 ?_
  refine lv_aload_n hx hb dL_law_1391 rfl (lv_at hl 1 rfl) ?_
  refine lv_iload hx hb dL_law_1392 (lv_at hl 5 rfl) ?_
  refine lv_iconst (v := nI 3) hx hb dL_law_1394 (by decide) ?_
  refine r_addN (r := i + 3) hx hb dL_law_1395 rfl ?_
  refine r_sld hx hb hX hbl hL hS (i := i + 3) (by omega) (v := xs (i + 3)) rfl dL_law_1396 ?_
  refine r_nz (T0 := 1404) (J := 1405) hx hb e3 dL_law_1397 (by decide) dL_law_1400 dL_law_1401 (by decide) dL_law_1404 rfl ?_
  refine k_M (va_runV (As := [.int (nI c), .int (nI c), .int (bI g)]) (rest := []) hF (m_turnDown_2 l D cI cA am th n y c g hc hn9) (cwV 3 hts gL_law_X4_turnDown rfl rfl rfl (by decide +kernel) ⟨(Nat.le_of_ble_eq_true rfl), (Nat.le_of_ble_eq_true rfl)⟩) (k_pre hPm hKm hDm hT (k := 0) (by decide) mF_0 rfl) rfl rfl hl.1 rfl (lv_room (Nat.le_of_ble_eq_true rfl)) dL_law_1405 ⟨hroom.1, hroom.2⟩) hAm (fun H2 hPm hz hk9 => ?_)
  have hPo := lw_keep (fun j hj ⟨k, hk, eq⟩ => hdis j k hj hk eq) hP1 hk9
  have hS := lw_S hAm hS hz hk9
  refine lv_istore (lv' := [(6, .int (nI 0)), (5, .int (nI 2)), (0, .ref b0), (1, .ref (ad 0)), (2, .ref (am 0)), (3, .ref (ad 46)), (4, .int (nI i))]) hx hb dL_law_1408 hl (by decide) rfl (fun ls hl => ?_)
  refine lv_aload_n hx hb dL_law_1410 rfl (lv_at hl 4 rfl) ?_
  refine k_Ri (va_runV (As := []) (rest := []) hF (c_X4_thrown l D cI cA am _ _ _) (cwV 0 hts gL_law_X4_thrown rfl rfl rfl (by decide +kernel) ⟨(Nat.le_of_ble_eq_true rfl), (Nat.le_of_ble_eq_true rfl)⟩) (k_pre hPm hKm hDm hT (k := 0) (by decide) mF_0 rfl) rfl rfl hl.1 rfl (lv_room (Nat.le_of_ble_eq_true rfl)) dL_law_1411 ⟨hroom.1, hroom.2⟩) ?_
  refine lv_iload hx hb dL_law_1414 (lv_at hl 1 rfl) ?_
  refine r_ceqN (tgt := 1421) hx hb (by decide) (by decide) dL_law_1416 (by decide) (fun _ => ?_) (fun h => absurd rfl h)
  refine lv_iload hx hb dL_law_1421 (lv_at hl 1 rfl) ?_
  refine r_ifneN (a := 2) (tgt := 1438) hx hb (by decide) dL_law_1423 (by decide) (fun _ => ?_) (fun h => absurd h (by decide))
  refine lv_goto (tgt := 1441) hx hb dL_law_1438 (by decide) ?_
  exact kk K _ _ _ _ _ _ _ (by omega) ⟨hPo, hPm, hS, hR⟩ (lv_sub hl [2, 3, 4, 5, 6] rfl)
set_option maxHeartbeats 4000000 in
set_option maxRecDepth 100000 in
theorem z_turnDown_Td {p : Program} {l : Launch} {e : Env} {s : State} {m : MethodId} {below : List Frame} {meth : Method} {c9 : Code} {H : Heap} {cells slots : Nat} {Q : State → Prop} {ls : Array Slot} {D : va_G} {b0 L : Nat} {xs : Nat → Int32} {cI cA cL : ClassId} {ad am : Nat → Nat} {K n : Nat} {x y : Nat → Nat → Int32} {o : Nat → Int64} {th : Int32} {i : Nat} (C0 : lwC p l s m c9 b0 L xs D cI cA cL ad am) (S0 : lwS s D cI cA cL ad am K n x y o th H) (hK30 : K < 2 ^ 30) (hroom : cells + 1 ≤ room_1.cells ∧ slots + 6 ≤ room_1.slots) (hi : i + 4 < L) (hl : lv_has ls 7 [(0, .ref b0), (1, .ref (ad 0)), (2, .ref (am 0)), (3, .ref (ad 46)), (4, .int (nI i))]) (c : Nat) (d : Nat) (g : Bool) (hc : c < n) (hd : d < n) (hne : c ≠ d) (hsg : sg x c d = 0) (e1 : xs (i + 1) = nI c) (e2 : xs (i + 2) = nI d) (e3 : decide (xs (i + 3) ≠ 0) = g) (kk : ∀ (K' n' : Nat) (x' y' : Nat → Nat → Int32) (o' : Nat → Int64) (th' : Int32) (H' : Heap) (ls' : Array Slot), K' ≤ K + 216 → lwS s D cI cA cL ad am K' n' x' y' o' th' H' → lv_has ls' 7 [(0, .ref b0), (1, .ref (ad 0)), (2, .ref (am 0)), (3, .ref (ad 46)), (4, .int (nI i))] → W p l e room_1 s m #[Value.ref b0] below meth c9 H' [] (cells + 1) (slots + 6) Q (F0 m 1441 ls' [])) : W p l e room_1 s m #[Value.ref b0] below meth c9 H [] cells slots Q (F0 m 1345 ls []) := by
  obtain ⟨hx, hb, hF, hK, hDo, hDm, hdis, hT, hXF, hC, hlt, hX, hbl, hL⟩ := C0
  obtain ⟨hPo, hPm, hS, hR⟩ := S0
  have hn9 : n ≤ 24 := hR.n24
  have hn : n ≤ 24 := hn9
  have hts := hF.2.2.2.2
  have hKm := hK.sub (tys' := [(cI, .int), (cA, .array .int)]) [0, 1] rfl
  have hAo : ∀ q, wA ad 47 q → s.heap.size ≤ q := fun q ⟨k, hk, eq⟩ => by rw [eq]; exact hDo.2 k hk
  have hAm : ∀ q, wA am 8 q → s.heap.size ≤ q := fun q ⟨k, hk, eq⟩ => by rw [eq]; exact hDm.2 k hk
  refine lv_aload_n hx hb dL_law_1345 rfl (lv_at hl 1 rfl) ?_
  refine lv_aload_n hx hb dL_law_1346 rfl (lv_at hl 0 rfl) ?_
  refine lv_iload hx hb dL_law_1347 (lv_at hl 4 rfl) ?_
  refine lv_iconst (v := nI 1) hx hb dL_law_1349 (by decide) ?_
  refine r_addN (r := i + 1) hx hb dL_law_1350 rfl ?_
  refine r_sld hx hb hX hbl hL hS (i := i + 1) (by omega) e1 dL_law_1351 ?_
  refine lv_aload_n hx hb dL_law_1352 rfl (lv_at hl 0 rfl) ?_
  refine lv_iload hx hb dL_law_1353 (lv_at hl 4 rfl) ?_
  refine lv_iconst (v := nI 2) hx hb dL_law_1355 (by decide) ?_
  refine r_addN (r := i + 2) hx hb dL_law_1356 rfl ?_
  refine r_sld hx hb hX hbl hL hS (i := i + 2) (by omega) e2 dL_law_1357 ?_
  refine lv_aload_n hx hb dL_law_1358 rfl (lv_at hl 0 rfl) ?_
  refine lv_iload hx hb dL_law_1359 (lv_at hl 4 rfl) ?_
  refine lv_iconst (v := nI 3) hx hb dL_law_1361 (by decide) ?_
  refine r_addN (r := i + 3) hx hb dL_law_1362 rfl ?_
  refine r_sld hx hb hX hbl hL hS (i := i + 3) (by omega) (v := xs (i + 3)) rfl dL_law_1363 ?_
  refine r_nz (T0 := 1371) (J := 1372) hx hb e3 dL_law_1364 (by decide) dL_law_1367 dL_law_1368 (by decide) dL_law_1371 rfl ?_
  refine lv_aload_n hx hb dL_law_1372 rfl (lv_at hl 3 rfl) ?_
  refine k_L (vx_runSW (As := [.ref (ad 0), .int (nI c), .int (nI d), .int (bI g), .ref (ad 46)]) (rest := []) hF (w_turnDown_Td l D cI cA ad n x c d g cL o hlt hc hd hne hn hsg) (vx_cwSW 5 hts gL_law_L_turnDown rfl rfl rfl (by decide +kernel) ⟨(Nat.le_of_ble_eq_true rfl), (Nat.le_of_ble_eq_true rfl)⟩) (lw_pre hK hDo hT hXF hC hPo hS) rfl rfl hl.1 rfl (lv_room (Nat.le_of_ble_eq_true rfl)) dL_law_1373 hroom) hAo (fun H1 hP1 hz hk9 => ?_)
  have hPm := lw_keep (fun j hj ⟨k, hk, eq⟩ => hdis k j hk hj eq.symm) hPm hk9
  have hS := lw_S hAo hS hz hk9
  refine lv_istore (lv' := [(5, .int (nI 3)), (0, .ref b0), (1, .ref (ad 0)), (2, .ref (am 0)), (3, .ref (ad 46)), (4, .int (nI i))]) hx hb dL_law_1376 hl (by decide) rfl (fun ls hl => ?_)
  refine lv_aload_n hx hb dL_law_1378 rfl (lv_at hl 3 rfl) ?_
  refine lv_aload_n hx hb dL_law_1379 rfl (lv_at hl 1 rfl) ?_
  refine lv_iload hx hb dL_law_1380 (lv_at hl 5 rfl) ?_
  refine lv_iconst (v := nI 1) hx hb dL_law_1382 (by decide) ?_
  refine r_addN (r := i + 1) hx hb dL_law_1383 rfl ?_
  refine r_sld hx hb hX hbl hL hS (i := i + 1) (by omega) e1 dL_law_1384 ?_
  refine lv_aload_n hx hb dL_law_1385 rfl (lv_at hl 1 rfl) ?_
  refine lv_iload hx hb dL_law_1386 (lv_at hl 5 rfl) ?_
  refine lv_iconst (v := nI 2) hx hb dL_law_1388 (by decide) ?_
  refine r_addN (r := i + 2) hx hb dL_law_1389 rfl ?_
  refine r_sld hx hb hX hbl hL hS (i := i + 2) (by omega) e2 dL_law_1390 ?_
  refine lv_aload_n hx hb dL_law_1391 rfl (lv_at hl 1 rfl) ?_
  refine lv_iload hx hb dL_law_1392 (lv_at hl 5 rfl) ?_
  refine lv_iconst (v := nI 3) hx hb dL_law_1394 (by decide) ?_
  refine r_addN (r := i + 3) hx hb dL_law_1395 rfl ?_
  refine r_sld hx hb hX hbl hL hS (i := i + 3) (by omega) (v := xs (i + 3)) rfl dL_law_1396 ?_
  refine r_nz (T0 := 1404) (J := 1405) hx hb e3 dL_law_1397 (by decide) dL_law_1400 dL_law_1401 (by decide) dL_law_1404 rfl ?_
  refine k_M (va_runV (As := [.int (nI c), .int (nI d), .int (bI g)]) (rest := []) hF (m_turnDown_3 l D cI cA am th n y c d g (x 9) hc hd hne hn9 hR.grp (by rw [hR.sug hK30 hc hd]; exact decide_eq_false (fun q => q hsg))) (cwV 3 hts gL_law_X4_turnDown rfl rfl rfl (by decide +kernel) ⟨(Nat.le_of_ble_eq_true rfl), (Nat.le_of_ble_eq_true rfl)⟩) (k_pre hPm hKm hDm hT (k := 0) (by decide) mF_0 rfl) rfl rfl hl.1 rfl (lv_room (Nat.le_of_ble_eq_true rfl)) dL_law_1405 ⟨hroom.1, hroom.2⟩) hAm (fun H2 hPm hz hk9 => ?_)
  have hPo := lw_keep (fun j hj ⟨k, hk, eq⟩ => hdis j k hj hk eq) hP1 hk9
  have hS := lw_S hAm hS hz hk9
  refine lv_istore (lv' := [(6, .int (nI 0)), (5, .int (nI 3)), (0, .ref b0), (1, .ref (ad 0)), (2, .ref (am 0)), (3, .ref (ad 46)), (4, .int (nI i))]) hx hb dL_law_1408 hl (by decide) rfl (fun ls hl => ?_)
  refine lv_aload_n hx hb dL_law_1410 rfl (lv_at hl 4 rfl) ?_
  refine k_Ri (va_runV (As := []) (rest := []) hF (c_X4_thrown l D cI cA am _ _ _) (cwV 0 hts gL_law_X4_thrown rfl rfl rfl (by decide +kernel) ⟨(Nat.le_of_ble_eq_true rfl), (Nat.le_of_ble_eq_true rfl)⟩) (k_pre hPm hKm hDm hT (k := 0) (by decide) mF_0 rfl) rfl rfl hl.1 rfl (lv_room (Nat.le_of_ble_eq_true rfl)) dL_law_1411 ⟨hroom.1, hroom.2⟩) ?_
  refine lv_iload hx hb dL_law_1414 (lv_at hl 1 rfl) ?_
  refine r_ceqN (tgt := 1421) hx hb (by decide) (by decide) dL_law_1416 (by decide) (fun _ => ?_) (fun h => absurd rfl h)
  refine lv_iload hx hb dL_law_1421 (lv_at hl 1 rfl) ?_
  refine r_ifneN (a := 3) (tgt := 1438) hx hb (by decide) dL_law_1423 (by decide) (fun _ => ?_) (fun h => absurd h (by decide))
  refine lv_goto (tgt := 1441) hx hb dL_law_1438 (by decide) ?_
  exact kk K _ _ _ _ _ _ _ (by omega) ⟨hPo, hPm, hS, hR⟩ (lv_sub hl [2, 3, 4, 5, 6] rfl)
