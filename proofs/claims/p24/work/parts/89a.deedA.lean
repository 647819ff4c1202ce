set_option maxHeartbeats 4000000 in
set_option maxRecDepth 100000 in
theorem deed_add {p : Program} {l : Launch} {e : Env} {s : State} {m : MethodId} {below : List Frame} {meth : Method} {c9 : Code} {H : Heap} {locs : List Loc} {cells slots : Nat} {Q : State → Prop} {ls : Array Slot} {D : va_G} {b0 L : Nat} {xs : Nat → Int32} {cI cA : ClassId} {ad : Nat → Nat} {K n : Nat} {x : Nat → Nat → Int32} {sn : Nat → Int32} {i T Y c d k w : Nat} (C0 : lwC p l s m c9 b0 L xs D cI cA ad) (hG : Gd K n x) (hP : va_P D vwCl (wl ad (sF cI cA ad n x sn) 47) H) (hS : va_S (fun q => s.heap.size ≤ q) s.heap H locs) (hY : Y < 2 ^ 28) (hrc : cells + 2 ≤ room_1.cells) (hrs : slots + 12 ≤ room_1.slots) (hl : lv_has ls 19 [(0, .ref b0), (1, .ref (ad 0)), (2, .ref (ad 46)), (3, .int (nI 1)), (4, .int (nI T)), (5, .int (nI i)), (7, .int (nI Y)), (9, .int (nI n)), (10, .int (nI c)), (11, .int (nI d)), (12, .int (nI k)), (13, .int (nI w))]) (kk : ∀ (K' n' : Nat) (x' : Nat → Nat → Int32) (sn' : Nat → Int32) (H' : Heap) (locs' : List Loc) (ls' : Array Slot), 1 ≤ n' → Gd K' n' x' → va_P D vwCl (wl ad (sF cI cA ad n' x' sn') 47) H' → va_S (fun q => s.heap.size ≤ q) s.heap H' locs' → lv_has ls' 19 [(0, .ref b0), (1, .ref (ad 0)), (2, .ref (ad 46)), (3, .int (nI 1)), (4, .int (nI T)), (5, .int (nI i)), (7, .int (nI Y))] → W p l e room_1 s m #[Value.ref b0] below meth c9 H' locs' (cells + 2) (slots + 12) Q (F0 m 1203 ls' [])) : W p l e room_1 s m #[Value.ref b0] below meth c9 H locs cells slots Q (F0 m 188 ls []) := by
  obtain ⟨hx, hb, hF, hK, hD, hT, hXF, hC, hlt, hX, hbl, hL⟩ := C0
  have hown : s.vm.findClass RL = some m.cls := hF.2.2.2.1
  have hts := hF.2.2.2.2
  have hn := hG.n24
  by_cases hn24 : n < 24
  · refine lv_aload_n hx hb dL_law_188 rfl (lv_at hl 1 rfl) ?_
    refine lv_iload hx hb dL_law_189 (lv_at hl 6 rfl) ?_
    refine lv_iconst (v := nI 3) hx hb dL_law_191 (by decide) ?_
    refine r_remN (a := Y) (b := 3) hx hb dL_law_192 (by omega) (by omega) (by omega) ?_
    refine lv_iload hx hb dL_law_193 (lv_at hl 6 rfl) ?_
    refine lv_iconst (v := nI 4) hx hb dL_law_195 (by decide) ?_
    refine r_shrN (a := Y) (k := 4) (r := Y / 16) hx hb dL_law_196 (by omega) (by decide +kernel) (by rfl) ?_
    refine lv_iconst (v := nI 5) hx hb dL_law_197 (by decide) ?_
    refine r_remN (a := (Y / 16)) (b := 5) hx hb dL_law_198 (by omega) (by omega) (by omega) ?_
    refine k_O (vx_runSW (As := [.ref (ad 0), .int (nI ((Y % 3))), .int (nI (((Y / 16) % 5)))]) (rest := []) hF (w_adds_0 l D cI cA ad n x (nI ((Y % 3))) (nI (((Y / 16) % 5))) (book_ok (by omega)) (name_ok (by omega)) (by omega)) (vx_cwSW 3 hts gL_law_L_adds rfl rfl rfl (by decide +kernel) ⟨(Nat.le_of_ble_eq_true rfl), (Nat.le_of_ble_eq_true rfl)⟩) (w_pre hK hD hT hXF hC hP hS) rfl rfl hl.1 rfl (lv_room (Nat.le_of_ble_eq_true rfl)) dL_law_199 ⟨(by omega), (by omega)⟩) hD hP hS (fun H locs hP hS => ?_)
    have hf := add_facts (b := nI (Y % 3)) (w := nI ((Y / 16) % 5)) hG hn24
    have hG1 : Gd K (n + 1) (appE x n (nI (Y % 3)) (nI ((Y / 16) % 5))) := Gd_add hG hn24
    obtain ⟨x1, e_x1⟩ : ∃ x1, x1 = appE x n (nI ((Y % 3))) (nI (((Y / 16) % 5))) := ⟨_, rfl⟩
    rw [← e_x1] at hP
    rw [← e_x1] at hf hG1
    refine lv_istore (lv' := [(14, .int (nI n)), (0, .ref b0), (1, .ref (ad 0)), (2, .ref (ad 46)), (3, .int (nI 1)), (4, .int (nI T)), (5, .int (nI i)), (7, .int (nI Y)), (9, .int (nI n)), (10, .int (nI c)), (11, .int (nI d)), (12, .int (nI k)), (13, .int (nI w))]) hx hb dL_law_202 hl (by decide) rfl (fun ls hl => ?_)
    refine lv_iload hx hb dL_law_204 (lv_at hl 0 rfl) ?_
    refine lv_iload hx hb dL_law_206 (lv_at hl 8 rfl) ?_
    refine lv_bipush (v := nI 24) hx hb dL_law_208 (by decide) ?_
    refine r_cgeN (a := n) (b := 24) (tgt := 218) hx hb (by omega) (by omega) dL_law_210 (by decide) (fun h => absurd h (by omega)) (fun _ => ?_)
    refine lv_iload hx hb dL_law_213 (lv_at hl 8 rfl) ?_
    refine lv_goto (tgt := 220) hx hb dL_law_215 (by decide) ?_
    refine r_cneN (a := n) (b := n) (tgt := 272) hx hb (by omega) (by omega) dL_law_220 (by decide) (fun h => absurd rfl h) (fun _ => ?_)
    refine lv_iload hx hb dL_law_223 (lv_at hl 0 rfl) ?_
    refine r_ifltN (a := n) (tgt := 268) hx hb (by omega) dL_law_225 (by decide) ?_
    refine lv_aload_n hx hb dL_law_228 rfl (lv_at hl 2 rfl) ?_
    refine lv_iload hx hb dL_law_229 (lv_at hl 0 rfl) ?_
    refine k_Ri (va_runV (As := [.int (nI n)]) (rest := []) hF (c_X3_group l D cI cA ad (n + 1) x1 n (by omega) (by omega)) (cwV 1 hts gL_law_X3_group rfl rfl rfl (by decide +kernel) ⟨(Nat.le_of_ble_eq_true rfl), (Nat.le_of_ble_eq_true rfl)⟩) (k_pre (sP_c hP) hK (sD_c hD) hT (k := 0) (by decide) cF_0 rfl) rfl rfl hl.1 rfl (lv_room (Nat.le_of_ble_eq_true rfl)) dL_law_231 ⟨(by omega), (by omega)⟩) ?_
    refine r_topi (show (x1 9 n : Int32) = bit n from hf.1) ?_
    refine lv_iconst (v := nI 1) hx hb dL_law_234 (by decide) ?_
    refine lv_iload hx hb dL_law_235 (lv_at hl 0 rfl) ?_
    refine r_bit hx hb dL_law_237 ?_
    refine lv_icmp_ne (tgt := 272) hx hb dL_law_238 (by decide) (fun h => absurd rfl h) (fun _ => ?_)
    refine lv_aload_n hx hb dL_law_241 rfl (lv_at hl 2 rfl) ?_
    refine lv_iload hx hb dL_law_242 (lv_at hl 0 rfl) ?_
    refine lv_iconst (v := nI 2) hx hb dL_law_244 (by decide) ?_
    refine k_Ri (va_runV (As := [.int (nI n), .int (nI 2)]) (rest := []) hF (c_X3_nameOf l D cI cA ad (n + 1) x1 n 2 (by omega) (by omega) (by omega)) (cwV 2 hts gL_law_X3_nameOf rfl rfl rfl (by decide +kernel) ⟨(Nat.le_of_ble_eq_true rfl), (Nat.le_of_ble_eq_true rfl)⟩) (k_pre (sP_c hP) hK (sD_c hD) hT (k := 0) (by decide) cF_0 rfl) rfl rfl hl.1 rfl (lv_room (Nat.le_of_ble_eq_true rfl)) dL_law_245 ⟨(by omega), (by omega)⟩) ?_
    refine r_topi (show (x1 (2 + 13) n : Int32) = nI (((Y / 16) % 5)) from hf.2.1) ?_
    refine lv_iload hx hb dL_law_248 (lv_at hl 7 rfl) ?_
    refine lv_iconst (v := nI 4) hx hb dL_law_250 (by decide) ?_
    refine r_shrN (a := Y) (k := 4) (r := Y / 16) hx hb dL_law_251 (by omega) (by decide +kernel) (by rfl) ?_
    refine lv_iconst (v := nI 5) hx hb dL_law_252 (by decide) ?_
    refine r_remN (a := (Y / 16)) (b := 5) hx hb dL_law_253 (by omega) (by omega) (by omega) ?_
    refine r_cneN (a := ((Y / 16) % 5)) (b := ((Y / 16) % 5)) (tgt := 272) hx hb (by omega) (by omega) dL_law_254 (by decide) (fun h => absurd rfl h) (fun _ => ?_)
    refine lv_aload_n hx hb dL_law_257 rfl (lv_at hl 2 rfl) ?_
    refine lv_iload hx hb dL_law_258 (lv_at hl 0 rfl) ?_
    refine lv_iconst (v := nI 1) hx hb dL_law_260 (by decide) ?_
    refine lv_iconst (v := nI 1) hx hb dL_law_261 (by decide) ?_
    refine k_Ri (va_runV (As := [.int (nI n), .int (nI 1), .int (nI 1)]) (rest := []) hF (c_X3_values l D cI cA ad (n + 1) x1 n 1 1 (by omega) (by omega) (by omega) (by omega)) (cwV 3 hts gL_law_X3_values rfl rfl rfl (by decide +kernel) ⟨(Nat.le_of_ble_eq_true rfl), (Nat.le_of_ble_eq_true rfl)⟩) (k_pre (sP_c hP) hK (sD_c hD) hT (k := 0) (by decide) cF_0 rfl) rfl rfl hl.1 rfl (lv_room (Nat.le_of_ble_eq_true rfl)) dL_law_262 ⟨(by omega), (by omega)⟩) ?_
    refine r_topi (show (x1 (2 * 1 + 1 + 16) n : Int32) = nI 0 from hf.2.2) ?_
    refine r_ifneN (a := 0) (tgt := 272) hx hb (by omega) dL_law_265 (by decide) (fun h => absurd h (by decide)) (fun _ => ?_)
    refine lv_iconst (v := nI 1) hx hb dL_law_268 (by decide) ?_
    refine lv_goto (tgt := 273) hx hb dL_law_269 (by decide) ?_
    refine lv_istore_n (lv' := [(3, .int (nI 1)), (14, .int (nI n)), (0, .ref b0), (1, .ref (ad 0)), (2, .ref (ad 46)), (4, .int (nI T)), (5, .int (nI i)), (7, .int (nI Y)), (9, .int (nI n)), (10, .int (nI c)), (11, .int (nI d)), (12, .int (nI k)), (13, .int (nI w))]) hx hb dL_law_273 rfl hl (by decide) rfl (fun ls hl => ?_)
    refine lv_goto (tgt := 1203) hx hb dL_law_274 (by decide) ?_
    exact W.widen (k := cells + 2) (n := slots + 12) (by omega) (by omega) (kk K (n + 1) x1 sn H locs ls (by omega) hG1 hP hS (lv_sub hl [2, 3, 4, 0, 5, 6, 7] rfl))
  · refine lv_aload_n hx hb dL_law_188 rfl (lv_at hl 1 rfl) ?_
    refine lv_iload hx hb dL_law_189 (lv_at hl 6 rfl) ?_
    refine lv_iconst (v := nI 3) hx hb dL_law_191 (by decide) ?_
    refine r_remN (a := Y) (b := 3) hx hb dL_law_192 (by omega) (by omega) (by omega) ?_
    refine lv_iload hx hb dL_law_193 (lv_at hl 6 rfl) ?_
    refine lv_iconst (v := nI 4) hx hb dL_law_195 (by decide) ?_
    refine r_shrN (a := Y) (k := 4) (r := Y / 16) hx hb dL_law_196 (by omega) (by decide +kernel) (by rfl) ?_
    refine lv_iconst (v := nI 5) hx hb dL_law_197 (by decide) ?_
    refine r_remN (a := (Y / 16)) (b := 5) hx hb dL_law_198 (by omega) (by omega) (by omega) ?_
    refine k_O (vx_runSW (As := [.ref (ad 0), .int (nI ((Y % 3))), .int (nI (((Y / 16) % 5)))]) (rest := []) hF (w_adds_Tc l D cI cA ad n x (nI ((Y % 3))) (nI (((Y / 16) % 5))) hlt (book_ok (by omega)) (name_ok (by omega)) (by omega)) (vx_cwSW 3 hts gL_law_L_adds rfl rfl rfl (by decide +kernel) ⟨(Nat.le_of_ble_eq_true rfl), (Nat.le_of_ble_eq_true rfl)⟩) (w_pre hK hD hT hXF hC hP hS) rfl rfl hl.1 rfl (lv_room (Nat.le_of_ble_eq_true rfl)) dL_law_199 ⟨(by omega), (by omega)⟩) hD hP hS (fun H locs hP hS => ?_)
    refine lv_istore (lv' := [(14, .int ((-3))), (0, .ref b0), (1, .ref (ad 0)), (2, .ref (ad 46)), (3, .int (nI 1)), (4, .int (nI T)), (5, .int (nI i)), (7, .int (nI Y)), (9, .int (nI n)), (10, .int (nI c)), (11, .int (nI d)), (12, .int (nI k)), (13, .int (nI w))]) hx hb dL_law_202 hl (by decide) rfl (fun ls hl => ?_)
    refine lv_iload hx hb dL_law_204 (lv_at hl 0 rfl) ?_
    refine lv_iload hx hb dL_law_206 (lv_at hl 8 rfl) ?_
    refine lv_bipush (v := nI 24) hx hb dL_law_208 (by decide) ?_
    refine r_cgeN (a := n) (b := 24) (tgt := 218) hx hb (by omega) (by omega) dL_law_210 (by decide) (fun _ => ?_) (fun h => absurd h (by omega))
    refine lv_bipush (v := (-3)) hx hb dL_law_218 (by decide) ?_
    refine lv_icmp_ne (tgt := 272) hx hb dL_law_220 (by decide) (fun h => absurd rfl h) (fun _ => ?_)
    refine lv_iload hx hb dL_law_223 (lv_at hl 0 rfl) ?_
    refine lv_if_lt (tgt := 268) hx hb dL_law_225 (by decide) (fun _ => ?_) (fun h => absurd (by decide) h)
    refine lv_iconst (v := nI 1) hx hb dL_law_268 (by decide) ?_
    refine lv_goto (tgt := 273) hx hb dL_law_269 (by decide) ?_
    refine lv_istore_n (lv' := [(3, .int (nI 1)), (14, .int ((-3))), (0, .ref b0), (1, .ref (ad 0)), (2, .ref (ad 46)), (4, .int (nI T)), (5, .int (nI i)), (7, .int (nI Y)), (9, .int (nI n)), (10, .int (nI c)), (11, .int (nI d)), (12, .int (nI k)), (13, .int (nI w))]) hx hb dL_law_273 rfl hl (by decide) rfl (fun ls hl => ?_)
    refine lv_goto (tgt := 1203) hx hb dL_law_274 (by decide) ?_
    exact W.widen (k := cells + 2) (n := slots + 12) (by omega) (by omega) (kk K n x sn H locs ls (by omega) hG hP hS (lv_sub hl [2, 3, 4, 0, 5, 6, 7] rfl))
set_option maxHeartbeats 4000000 in
set_option maxRecDepth 100000 in
theorem deed_turn {p : Program} {l : Launch} {e : Env} {s : State} {m : MethodId} {below : List Frame} {meth : Method} {c9 : Code} {H : Heap} {locs : List Loc} {cells slots : Nat} {Q : State → Prop} {ls : Array Slot} {D : va_G} {b0 L : Nat} {xs : Nat → Int32} {cI cA : ClassId} {ad : Nat → Nat} {K n : Nat} {x : Nat → Nat → Int32} {sn : Nat → Int32} {i T Y c d k w : Nat} (C0 : lwC p l s m c9 b0 L xs D cI cA ad) (hG : Gd K n x) (hP : va_P D vwCl (wl ad (sF cI cA ad n x sn) 47) H) (hS : va_S (fun q => s.heap.size ≤ q) s.heap H locs) (hY : Y < 2 ^ 28) (hc : c < n) (hd : d < n) (hk : k < 2) (hw : w < 6) (hrc : cells + 2 ≤ room_1.cells) (hrs : slots + 12 ≤ room_1.slots) (hl : lv_has ls 19 [(0, .ref b0), (1, .ref (ad 0)), (2, .ref (ad 46)), (3, .int (nI 1)), (4, .int (nI T)), (5, .int (nI i)), (7, .int (nI Y)), (9, .int (nI n)), (10, .int (nI c)), (11, .int (nI d)), (12, .int (nI k)), (13, .int (nI w))]) (kk : ∀ (K' n' : Nat) (x' : Nat → Nat → Int32) (sn' : Nat → Int32) (H' : Heap) (locs' : List Loc) (ls' : Array Slot), 1 ≤ n' → Gd K' n' x' → va_P D vwCl (wl ad (sF cI cA ad n' x' sn') 47) H' → va_S (fun q => s.heap.size ≤ q) s.heap H' locs' → lv_has ls' 19 [(0, .ref b0), (1, .ref (ad 0)), (2, .ref (ad 46)), (3, .int (nI 1)), (4, .int (nI T)), (5, .int (nI i)), (7, .int (nI Y))] → W p l e room_1 s m #[Value.ref b0] below meth c9 H' locs' (cells + 2) (slots + 12) Q (F0 m 1203 ls' [])) : W p l e room_1 s m #[Value.ref b0] below meth c9 H locs cells slots Q (F0 m 284 ls []) := by
  obtain ⟨hx, hb, hF, hK, hD, hT, hXF, hC, hlt, hX, hbl, hL⟩ := C0
  have hown : s.vm.findClass RL = some m.cls := hF.2.2.2.1
  have hts := hF.2.2.2.2
  have hn := hG.n24
  have h300 : ∀ v, v < 2 → ∀ ls : Array Slot, lv_has ls 19 [(0, .ref b0), (1, .ref (ad 0)), (2, .ref (ad 46)), (3, .int (nI 1)), (4, .int (nI T)), (5, .int (nI i)), (7, .int (nI Y)), (9, .int (nI n)), (10, .int (nI c)), (11, .int (nI d)), (12, .int (nI k)), (13, .int (nI w))] → W p l e room_1 s m #[Value.ref b0] below meth c9 H locs cells slots Q (F0 m 300 ls [.int (nI v)]) := by
    intro v hv ls hl
    rcases Bool.eq_false_or_eq_true (hasB (x (2 * v + k + 16) c) w) with hb9 | hb9
    · refine lv_istore (lv' := [(14, .int (nI v)), (0, .ref b0), (1, .ref (ad 0)), (2, .ref (ad 46)), (3, .int (nI 1)), (4, .int (nI T)), (5, .int (nI i)), (7, .int (nI Y)), (9, .int (nI n)), (10, .int (nI c)), (11, .int (nI d)), (12, .int (nI k)), (13, .int (nI w))]) hx hb dL_law_300 hl (by decide) rfl (fun ls hl => ?_)
      refine lv_aload_n hx hb dL_law_302 rfl (lv_at hl 2 rfl) ?_
      refine lv_iload hx hb dL_law_303 (lv_at hl 9 rfl) ?_
      refine lv_iload hx hb dL_law_305 (lv_at hl 0 rfl) ?_
      refine lv_iload hx hb dL_law_307 (lv_at hl 11 rfl) ?_
      refine k_Ri (va_runV (As := [.int (nI c), .int (nI v), .int (nI k)]) (rest := []) hF (c_X3_values l D cI cA ad n x c v k (by omega) (by omega) (by omega) (by omega)) (cwV 3 hts gL_law_X3_values rfl rfl rfl (by decide +kernel) ⟨(Nat.le_of_ble_eq_true rfl), (Nat.le_of_ble_eq_true rfl)⟩) (k_pre (sP_c hP) hK (sD_c hD) hT (k := 0) (by decide) cF_0 rfl) rfl rfl hl.1 rfl (lv_room (Nat.le_of_ble_eq_true rfl)) dL_law_309 ⟨(by omega), (by omega)⟩) ?_
      refine lv_istore (lv' := [(15, .int (x (2 * v + k + 16) c)), (14, .int (nI v)), (0, .ref b0), (1, .ref (ad 0)), (2, .ref (ad 46)), (3, .int (nI 1)), (4, .int (nI T)), (5, .int (nI i)), (7, .int (nI Y)), (9, .int (nI n)), (10, .int (nI c)), (11, .int (nI d)), (12, .int (nI k)), (13, .int (nI w))]) hx hb dL_law_312 hl (by decide) rfl (fun ls hl => ?_)
      refine lv_aload_n hx hb dL_law_314 rfl (lv_at hl 3 rfl) ?_
      refine lv_iload hx hb dL_law_315 (lv_at hl 10 rfl) ?_
      refine lv_iconst (v := nI 2) hx hb dL_law_317 (by decide) ?_
      refine lv_iload hx hb dL_law_318 (lv_at hl 12 rfl) ?_
      refine k_Ri (va_runV (As := [.int (nI c), .int (nI 2), .int (nI k)]) (rest := []) hF (c_X3_values l D cI cA ad n x c 2 k (by omega) (by omega) (by omega) (by omega)) (cwV 3 hts gL_law_X3_values rfl rfl rfl (by decide +kernel) ⟨(Nat.le_of_ble_eq_true rfl), (Nat.le_of_ble_eq_true rfl)⟩) (k_pre (sP_c hP) hK (sD_c hD) hT (k := 0) (by decide) cF_0 rfl) rfl rfl hl.1 rfl (lv_room (Nat.le_of_ble_eq_true rfl)) dL_law_320 ⟨(by omega), (by omega)⟩) ?_
      refine lv_istore (lv' := [(16, .int (x (2 * 2 + k + 16) c)), (15, .int (x (2 * v + k + 16) c)), (14, .int (nI v)), (0, .ref b0), (1, .ref (ad 0)), (2, .ref (ad 46)), (3, .int (nI 1)), (4, .int (nI T)), (5, .int (nI i)), (7, .int (nI Y)), (9, .int (nI n)), (10, .int (nI c)), (11, .int (nI d)), (12, .int (nI k)), (13, .int (nI w))]) hx hb dL_law_323 hl (by decide) rfl (fun ls hl => ?_)
      refine lv_aload_n hx hb dL_law_325 rfl (lv_at hl 4 rfl) ?_
      refine lv_iload hx hb dL_law_326 (lv_at hl 11 rfl) ?_
      refine lv_iload hx hb dL_law_328 (lv_at hl 2 rfl) ?_
      refine lv_iload hx hb dL_law_330 (lv_at hl 13 rfl) ?_
      refine lv_iload hx hb dL_law_332 (lv_at hl 14 rfl) ?_
      refine k_C (va_runV (As := [.int (nI c), .int (nI v), .int (nI k), .int (nI w)]) (rest := []) hF (c_X3_turn l D cI cA ad n x c v k w (by omega) (by omega) (by omega) (by omega) (by omega)) (cwV 4 hts gL_law_X3_turn rfl rfl rfl (by decide +kernel) ⟨(Nat.le_of_ble_eq_true rfl), (Nat.le_of_ble_eq_true rfl)⟩) (k_pre (sP_c hP) hK (sD_c hD) hT (k := 0) (by decide) cF_0 rfl) rfl rfl hl.1 rfl (lv_room (Nat.le_of_ble_eq_true rfl)) dL_law_334 ⟨(by omega), (by omega)⟩) hD hP hS (fun H locs hP hS => ?_)
      refine r_topi (show (bI (hasB (x (2 * v + k + 16) c ^^^ bit w) w) : Int32) = nI 0 from by rw [xbit_self (by omega), hb9]; rfl) ?_
      obtain ⟨x1, e_x1⟩ : ∃ x1, x1 = putS x c v k (x (2 * v + k + 16) c ^^^ bit w) := ⟨_, rfl⟩
      rw [← e_x1] at hP
      refine lv_iload hx hb dL_law_337 (lv_at hl 1 rfl) ?_
      refine lv_iload hx hb dL_law_339 (lv_at hl 14 rfl) ?_
      refine lv_ishr hx hb dL_law_341 ?_
      refine lv_iconst (v := nI 1) hx hb dL_law_342 (by decide) ?_
      refine lv_iand hx hb dL_law_343 ?_
      refine r_topi (show (((x (2 * v + k + 16) c) >>> ((nI w) &&& 31)) &&& (nI 1) : Int32) = nI 1 from (shb (by omega)).trans (by rw [hb9]; rfl)) ?_
      refine r_ifneN (a := 1) (tgt := 351) hx hb (by omega) dL_law_344 (by decide) (fun _ => ?_) (fun h => absurd h (by decide))
      refine lv_iconst (v := nI 0) hx hb dL_law_351 (by decide) ?_
      refine r_cneN (a := 0) (b := 0) (tgt := 393) hx hb (by omega) (by omega) dL_law_352 (by decide) (fun h => absurd h (by decide)) (fun _ => ?_)
      refine lv_aload_n hx hb dL_law_355 rfl (lv_at hl 4 rfl) ?_
      refine lv_iload hx hb dL_law_356 (lv_at hl 11 rfl) ?_
      refine lv_iload hx hb dL_law_358 (lv_at hl 2 rfl) ?_
      refine lv_iload hx hb dL_law_360 (lv_at hl 13 rfl) ?_
      refine k_Ri (va_runV (As := [.int (nI c), .int (nI v), .int (nI k)]) (rest := []) hF (c_X3_values l D cI cA ad n x1 c v k (by omega) (by omega) (by omega) (by omega)) (cwV 3 hts gL_law_X3_values rfl rfl rfl (by decide +kernel) ⟨(Nat.le_of_ble_eq_true rfl), (Nat.le_of_ble_eq_true rfl)⟩) (k_pre (sP_c hP) hK (sD_c hD) hT (k := 0) (by decide) cF_0 rfl) rfl rfl hl.1 rfl (lv_room (Nat.le_of_ble_eq_true rfl)) dL_law_362 ⟨(by omega), (by omega)⟩) ?_
      refine r_topi (show (x1 (2 * v + k + 16) c : Int32) = (x (2 * v + k + 16) c) ^^^ (bit w) from by rw [e_x1, putS_at]) ?_
      refine lv_iload hx hb dL_law_365 (lv_at hl 1 rfl) ?_
      refine lv_iconst (v := nI 1) hx hb dL_law_367 (by decide) ?_
      refine lv_iload hx hb dL_law_368 (lv_at hl 14 rfl) ?_
      refine r_bit hx hb dL_law_370 ?_
      refine lv_ixor hx hb dL_law_371 ?_
      refine lv_icmp_ne (tgt := 393) hx hb dL_law_372 (by decide) (fun h => absurd rfl h) (fun _ => ?_)
      refine lv_aload_n hx hb dL_law_375 rfl (lv_at hl 4 rfl) ?_
      refine lv_iload hx hb dL_law_376 (lv_at hl 11 rfl) ?_
      refine lv_iconst (v := nI 2) hx hb dL_law_378 (by decide) ?_
      refine lv_iload hx hb dL_law_379 (lv_at hl 13 rfl) ?_
      refine k_Ri (va_runV (As := [.int (nI c), .int (nI 2), .int (nI k)]) (rest := []) hF (c_X3_values l D cI cA ad n x1 c 2 k (by omega) (by omega) (by omega) (by omega)) (cwV 3 hts gL_law_X3_values rfl rfl rfl (by decide +kernel) ⟨(Nat.le_of_ble_eq_true rfl), (Nat.le_of_ble_eq_true rfl)⟩) (k_pre (sP_c hP) hK (sD_c hD) hT (k := 0) (by decide) cF_0 rfl) rfl rfl hl.1 rfl (lv_room (Nat.le_of_ble_eq_true rfl)) dL_law_381 ⟨(by omega), (by omega)⟩) ?_
      refine r_topi (show (x1 (2 * 2 + k + 16) c : Int32) = x (2 * 2 + k + 16) c from by rw [e_x1, putS_r (by omega) (by omega)]) ?_
      refine lv_iload hx hb dL_law_384 (lv_at hl 0 rfl) ?_
      refine lv_icmp_ne (tgt := 393) hx hb dL_law_386 (by decide) (fun h => absurd rfl h) (fun _ => ?_)
      refine lv_iconst (v := nI 1) hx hb dL_law_389 (by decide) ?_
      refine lv_goto (tgt := 394) hx hb dL_law_390 (by decide) ?_
      refine lv_istore_n (lv' := [(3, .int (nI 1)), (16, .int (x (2 * 2 + k + 16) c)), (15, .int (x (2 * v + k + 16) c)), (14, .int (nI v)), (0, .ref b0), (1, .ref (ad 0)), (2, .ref (ad 46)), (4, .int (nI T)), (5, .int (nI i)), (7, .int (nI Y)), (9, .int (nI n)), (10, .int (nI c)), (11, .int (nI d)), (12, .int (nI k)), (13, .int (nI w))]) hx hb dL_law_394 rfl hl (by decide) rfl (fun ls hl => ?_)
      refine lv_goto (tgt := 1203) hx hb dL_law_395 (by decide) ?_
      exact W.widen (k := cells + 2) (n := slots + 12) (by omega) (by omega) (kk (K + 1) n x1 sn H locs ls (by omega) (by rw [e_x1]; exact Gd_putS hG hc (by omega) hk (fit30_xbit (hG.fit (by omega) (by omega) hk) (by omega))) hP hS (lv_sub hl [4, 5, 6, 0, 7, 8, 9] rfl))
    · refine lv_istore (lv' := [(14, .int (nI v)), (0, .ref b0), (1, .ref (ad 0)), (2, .ref (ad 46)), (3, .int (nI 1)), (4, .int (nI T)), (5, .int (nI i)), (7, .int (nI Y)), (9, .int (nI n)), (10, .int (nI c)), (11, .int (nI d)), (12, .int (nI k)), (13, .int (nI w))]) hx hb dL_law_300 hl (by decide) rfl (fun ls hl => ?_)
      refine lv_aload_n hx hb dL_law_302 rfl (lv_at hl 2 rfl) ?_
      refine lv_iload hx hb dL_law_303 (lv_at hl 9 rfl) ?_
      refine lv_iload hx hb dL_law_305 (lv_at hl 0 rfl) ?_
      refine lv_iload hx hb dL_law_307 (lv_at hl 11 rfl) ?_
      refine k_Ri (va_runV (As := [.int (nI c), .int (nI v), .int (nI k)]) (rest := []) hF (c_X3_values l D cI cA ad n x c v k (by omega) (by omega) (by omega) (by omega)) (cwV 3 hts gL_law_X3_values rfl rfl rfl (by decide +kernel) ⟨(Nat.le_of_ble_eq_true rfl), (Nat.le_of_ble_eq_true rfl)⟩) (k_pre (sP_c hP) hK (sD_c hD) hT (k := 0) (by decide) cF_0 rfl) rfl rfl hl.1 rfl (lv_room (Nat.le_of_ble_eq_true rfl)) dL_law_309 ⟨(by omega), (by omega)⟩) ?_
      refine lv_istore (lv' := [(15, .int (x (2 * v + k + 16) c)), (14, .int (nI v)), (0, .ref b0), (1, .ref (ad 0)), (2, .ref (ad 46)), (3, .int (nI 1)), (4, .int (nI T)), (5, .int (nI i)), (7, .int (nI Y)), (9, .int (nI n)), (10, .int (nI c)), (11, .int (nI d)), (12, .int (nI k)), (13, .int (nI w))]) hx hb dL_law_312 hl (by decide) rfl (fun ls hl => ?_)
      refine lv_aload_n hx hb dL_law_314 rfl (lv_at hl 3 rfl) ?_
      refine lv_iload hx hb dL_law_315 (lv_at hl 10 rfl) ?_
      refine lv_iconst (v := nI 2) hx hb dL_law_317 (by decide) ?_
      refine lv_iload hx hb dL_law_318 (lv_at hl 12 rfl) ?_
      refine k_Ri (va_runV (As := [.int (nI c), .int (nI 2), .int (nI k)]) (rest := []) hF (c_X3_values l D cI cA ad n x c 2 k (by omega) (by omega) (by omega) (by omega)) (cwV 3 hts gL_law_X3_values rfl rfl rfl (by decide +kernel) ⟨(Nat.le_of_ble_eq_true rfl), (Nat.le_of_ble_eq_true rfl)⟩) (k_pre (sP_c hP) hK (sD_c hD) hT (k := 0) (by decide) cF_0 rfl) rfl rfl hl.1 rfl (lv_room (Nat.le_of_ble_eq_true rfl)) dL_law_320 ⟨(by omega), (by omega)⟩) ?_
      refine lv_istore (lv' := [(16, .int (x (2 * 2 + k + 16) c)), (15, .int (x (2 * v + k + 16) c)), (14, .int (nI v)), (0, .ref b0), (1, .ref (ad 0)), (2, .ref (ad 46)), (3, .int (nI 1)), (4, .int (nI T)), (5, .int (nI i)), (7, .int (nI Y)), (9, .int (nI n)), (10, .int (nI c)), (11, .int (nI d)), (12, .int (nI k)), (13, .int (nI w))]) hx hb dL_law_323 hl (by decide) rfl (fun ls hl => ?_)
      refine lv_aload_n hx hb dL_law_325 rfl (lv_at hl 4 rfl) ?_
      refine lv_iload hx hb dL_law_326 (lv_at hl 11 rfl) ?_
      refine lv_iload hx hb dL_law_328 (lv_at hl 2 rfl) ?_
      refine lv_iload hx hb dL_law_330 (lv_at hl 13 rfl) ?_
      refine lv_iload hx hb dL_law_332 (lv_at hl 14 rfl) ?_
      refine k_C (va_runV (As := [.int (nI c), .int (nI v), .int (nI k), .int (nI w)]) (rest := []) hF (c_X3_turn l D cI cA ad n x c v k w (by omega) (by omega) (by omega) (by omega) (by omega)) (cwV 4 hts gL_law_X3_turn rfl rfl rfl (by decide +kernel) ⟨(Nat.le_of_ble_eq_true rfl), (Nat.le_of_ble_eq_true rfl)⟩) (k_pre (sP_c hP) hK (sD_c hD) hT (k := 0) (by decide) cF_0 rfl) rfl rfl hl.1 rfl (lv_room (Nat.le_of_ble_eq_true rfl)) dL_law_334 ⟨(by omega), (by omega)⟩) hD hP hS (fun H locs hP hS => ?_)
      refine r_topi (show (bI (hasB (x (2 * v + k + 16) c ^^^ bit w) w) : Int32) = nI 1 from by rw [xbit_self (by omega), hb9]; rfl) ?_
      obtain ⟨x1, e_x1⟩ : ∃ x1, x1 = putS x c v k (x (2 * v + k + 16) c ^^^ bit w) := ⟨_, rfl⟩
      rw [← e_x1] at hP
      refine lv_iload hx hb dL_law_337 (lv_at hl 1 rfl) ?_
      refine lv_iload hx hb dL_law_339 (lv_at hl 14 rfl) ?_
      refine lv_ishr hx hb dL_law_341 ?_
      refine lv_iconst (v := nI 1) hx hb dL_law_342 (by decide) ?_
      refine lv_iand hx hb dL_law_343 ?_
      refine r_topi (show (((x (2 * v + k + 16) c) >>> ((nI w) &&& 31)) &&& (nI 1) : Int32) = nI 0 from (shb (by omega)).trans (by rw [hb9]; rfl)) ?_
      refine r_ifneN (a := 0) (tgt := 351) hx hb (by omega) dL_law_344 (by decide) (fun h => absurd h (by decide)) (fun _ => ?_)
      refine lv_iconst (v := nI 1) hx hb dL_law_347 (by decide) ?_
      refine lv_goto (tgt := 352) hx hb dL_law_348 (by decide) ?_
      refine r_cneN (a := 1) (b := 1) (tgt := 393) hx hb (by omega) (by omega) dL_law_352 (by decide) (fun h => absurd h (by decide)) (fun _ => ?_)
      refine lv_aload_n hx hb dL_law_355 rfl (lv_at hl 4 rfl) ?_
      refine lv_iload hx hb dL_law_356 (lv_at hl 11 rfl) ?_
      refine lv_iload hx hb dL_law_358 (lv_at hl 2 rfl) ?_
      refine lv_iload hx hb dL_law_360 (lv_at hl 13 rfl) ?_
      refine k_Ri (va_runV (As := [.int (nI c), .int (nI v), .int (nI k)]) (rest := []) hF (c_X3_values l D cI cA ad n x1 c v k (by omega) (by omega) (by omega) (by omega)) (cwV 3 hts gL_law_X3_values rfl rfl rfl (by decide +kernel) ⟨(Nat.le_of_ble_eq_true rfl), (Nat.le_of_ble_eq_true rfl)⟩) (k_pre (sP_c hP) hK (sD_c hD) hT (k := 0) (by decide) cF_0 rfl) rfl rfl hl.1 rfl (lv_room (Nat.le_of_ble_eq_true rfl)) dL_law_362 ⟨(by omega), (by omega)⟩) ?_
      refine r_topi (show (x1 (2 * v + k + 16) c : Int32) = (x (2 * v + k + 16) c) ^^^ (bit w) from by rw [e_x1, putS_at]) ?_
      refine lv_iload hx hb dL_law_365 (lv_at hl 1 rfl) ?_
      refine lv_iconst (v := nI 1) hx hb dL_law_367 (by decide) ?_
      refine lv_iload hx hb dL_law_368 (lv_at hl 14 rfl) ?_
      refine r_bit hx hb dL_law_370 ?_
      refine lv_ixor hx hb dL_law_371 ?_
      refine lv_icmp_ne (tgt := 393) hx hb dL_law_372 (by decide) (fun h => absurd rfl h) (fun _ => ?_)
      refine lv_aload_n hx hb dL_law_375 rfl (lv_at hl 4 rfl) ?_
      refine lv_iload hx hb dL_law_376 (lv_at hl 11 rfl) ?_
      refine lv_iconst (v := nI 2) hx hb dL_law_378 (by decide) ?_
      refine lv_iload hx hb dL_law_379 (lv_at hl 13 rfl) ?_
      refine k_Ri (va_runV (As := [.int (nI c), .int (nI 2), .int (nI k)]) (rest := []) hF (c_X3_values l D cI cA ad n x1 c 2 k (by omega) (by omega) (by omega) (by omega)) (cwV 3 hts gL_law_X3_values rfl rfl rfl (by decide +kernel) ⟨(Nat.le_of_ble_eq_true rfl), (Nat.le_of_ble_eq_true rfl)⟩) (k_pre (sP_c hP) hK (sD_c hD) hT (k := 0) (by decide) cF_0 rfl) rfl rfl hl.1 rfl (lv_room (Nat.le_of_ble_eq_true rfl)) dL_law_381 ⟨(by omega), (by omega)⟩) ?_
      refine r_topi (show (x1 (2 * 2 + k + 16) c : Int32) = x (2 * 2 + k + 16) c from by rw [e_x1, putS_r (by omega) (by omega)]) ?_
      refine lv_iload hx hb dL_law_384 (lv_at hl 0 rfl) ?_
      refine lv_icmp_ne (tgt := 393) hx hb dL_law_386 (by decide) (fun h => absurd rfl h) (fun _ => ?_)
      refine lv_iconst (v := nI 1) hx hb dL_law_389 (by decide) ?_
      refine lv_goto (tgt := 394) hx hb dL_law_390 (by decide) ?_
      refine lv_istore_n (lv' := [(3, .int (nI 1)), (16, .int (x (2 * 2 + k + 16) c)), (15, .int (x (2 * v + k + 16) c)), (14, .int (nI v)), (0, .ref b0), (1, .ref (ad 0)), (2, .ref (ad 46)), (4, .int (nI T)), (5, .int (nI i)), (7, .int (nI Y)), (9, .int (nI n)), (10, .int (nI c)), (11, .int (nI d)), (12, .int (nI k)), (13, .int (nI w))]) hx hb dL_law_394 rfl hl (by decide) rfl (fun ls hl => ?_)
      refine lv_goto (tgt := 1203) hx hb dL_law_395 (by decide) ?_
      exact W.widen (k := cells + 2) (n := slots + 12) (by omega) (by omega) (kk (K + 1) n x1 sn H locs ls (by omega) (by rw [e_x1]; exact Gd_putS hG hc (by omega) hk (fit30_xbit (hG.fit (by omega) (by omega) hk) (by omega))) hP hS (lv_sub hl [4, 5, 6, 0, 7, 8, 9] rfl))
  refine lv_iload hx hb dL_law_284 (lv_at hl 6 rfl) ?_
  refine lv_bipush (v := nI 14) hx hb dL_law_286 (by decide) ?_
  refine r_shrN (a := Y) (k := 14) (r := Y / 16384) hx hb dL_law_288 (by omega) (by decide +kernel) (by rfl) ?_
  refine lv_iconst (v := nI 3) hx hb dL_law_289 (by decide) ?_
  refine r_remN (a := (Y / 16384)) (b := 3) hx hb dL_law_290 (by omega) (by omega) (by omega) ?_
  refine lv_iconst (v := nI 2) hx hb dL_law_291 (by decide) ?_
  refine r_cneN (a := ((Y / 16384) % 3)) (b := 2) (tgt := 299) hx hb (by omega) (by omega) dL_law_292 (by decide) (fun _ => ?_) (fun _ => ?_)
  · refine lv_iconst (v := nI 0) hx hb dL_law_299 (by decide) ?_
    exact h300 0 (by decide) ls hl
  · refine lv_iconst (v := nI 1) hx hb dL_law_295 (by decide) ?_
    refine lv_goto (tgt := 300) hx hb dL_law_296 (by decide) ?_
    exact h300 1 (by decide) ls hl
set_option maxHeartbeats 4000000 in
set_option maxRecDepth 100000 in
theorem deed_rename {p : Program} {l : Launch} {e : Env} {s : State} {m : MethodId} {below : List Frame} {meth : Method} {c9 : Code} {H : Heap} {locs : List Loc} {cells slots : Nat} {Q : State → Prop} {ls : Array Slot} {D : va_G} {b0 L : Nat} {xs : Nat → Int32} {cI cA : ClassId} {ad : Nat → Nat} {K n : Nat} {x : Nat → Nat → Int32} {sn : Nat → Int32} {i T Y c d k w : Nat} (C0 : lwC p l s m c9 b0 L xs D cI cA ad) (hG : Gd K n x) (hP : va_P D vwCl (wl ad (sF cI cA ad n x sn) 47) H) (hS : va_S (fun q => s.heap.size ≤ q) s.heap H locs) (hY : Y < 2 ^ 28) (hc : c < n) (hd : d < n) (hk : k < 2) (hw : w < 6) (hrc : cells + 2 ≤ room_1.cells) (hrs : slots + 12 ≤ room_1.slots) (hl : lv_has ls 19 [(0, .ref b0), (1, .ref (ad 0)), (2, .ref (ad 46)), (3, .int (nI 1)), (4, .int (nI T)), (5, .int (nI i)), (7, .int (nI Y)), (9, .int (nI n)), (10, .int (nI c)), (11, .int (nI d)), (12, .int (nI k)), (13, .int (nI w))]) (kk : ∀ (K' n' : Nat) (x' : Nat → Nat → Int32) (sn' : Nat → Int32) (H' : Heap) (locs' : List Loc) (ls' : Array Slot), 1 ≤ n' → Gd K' n' x' → va_P D vwCl (wl ad (sF cI cA ad n' x' sn') 47) H' → va_S (fun q => s.heap.size ≤ q) s.heap H' locs' → lv_has ls' 19 [(0, .ref b0), (1, .ref (ad 0)), (2, .ref (ad 46)), (3, .int (nI 1)), (4, .int (nI T)), (5, .int (nI i)), (7, .int (nI Y))] → W p l e room_1 s m #[Value.ref b0] below meth c9 H' locs' (cells + 2) (slots + 12) Q (F0 m 1203 ls' [])) : W p l e room_1 s m #[Value.ref b0] below meth c9 H locs cells slots Q (F0 m 405 ls []) := by
  obtain ⟨hx, hb, hF, hK, hD, hT, hXF, hC, hlt, hX, hbl, hL⟩ := C0
  have hown : s.vm.findClass RL = some m.cls := hF.2.2.2.1
  have hts := hF.2.2.2.2
  have hn := hG.n24
  obtain ⟨v, hv, ev⟩ := pk_andE (nI (Y / 16384)) (m := nI 1) 1 (by decide)
  have hv : v < 2 := hv
  refine lv_iload hx hb dL_law_405 (lv_at hl 6 rfl) ?_
  refine lv_bipush (v := nI 14) hx hb dL_law_407 (by decide) ?_
  refine r_shrN (a := Y) (k := 14) (r := Y / 16384) hx hb dL_law_409 (by omega) (by decide +kernel) (by rfl) ?_
  refine lv_iconst (v := nI 1) hx hb dL_law_410 (by decide) ?_
  refine lv_iand hx hb dL_law_411 ?_
  refine r_topi (show ((nI ((Y / 16384))) &&& (nI 1) : Int32) = nI v from ev) ?_
  refine lv_istore (lv' := [(14, .int (nI v)), (0, .ref b0), (1, .ref (ad 0)), (2, .ref (ad 46)), (3, .int (nI 1)), (4, .int (nI T)), (5, .int (nI i)), (7, .int (nI Y)), (9, .int (nI n)), (10, .int (nI c)), (11, .int (nI d)), (12, .int (nI k)), (13, .int (nI w))]) hx hb dL_law_412 hl (by decide) rfl (fun ls hl => ?_)
  refine lv_aload_n hx hb dL_law_414 rfl (lv_at hl 2 rfl) ?_
  refine lv_iload hx hb dL_law_415 (lv_at hl 9 rfl) ?_
  refine lv_iload hx hb dL_law_417 (lv_at hl 0 rfl) ?_
  refine k_Ri (va_runV (As := [.int (nI c), .int (nI v)]) (rest := []) hF (c_X3_nameOf l D cI cA ad n x c v (by omega) (by omega) (by omega)) (cwV 2 hts gL_law_X3_nameOf rfl rfl rfl (by decide +kernel) ⟨(Nat.le_of_ble_eq_true rfl), (Nat.le_of_ble_eq_true rfl)⟩) (k_pre (sP_c hP) hK (sD_c hD) hT (k := 0) (by decide) cF_0 rfl) rfl rfl hl.1 rfl (lv_room (Nat.le_of_ble_eq_true rfl)) dL_law_419 ⟨(by omega), (by omega)⟩) ?_
  refine lv_istore (lv' := [(15, .int (x (v + 13) c)), (14, .int (nI v)), (0, .ref b0), (1, .ref (ad 0)), (2, .ref (ad 46)), (3, .int (nI 1)), (4, .int (nI T)), (5, .int (nI i)), (7, .int (nI Y)), (9, .int (nI n)), (10, .int (nI c)), (11, .int (nI d)), (12, .int (nI k)), (13, .int (nI w))]) hx hb dL_law_422 hl (by decide) rfl (fun ls hl => ?_)
  refine lv_aload_n hx hb dL_law_424 rfl (lv_at hl 3 rfl) ?_
  refine lv_iload hx hb dL_law_425 (lv_at hl 10 rfl) ?_
  refine lv_iload hx hb dL_law_427 (lv_at hl 1 rfl) ?_
  refine lv_iload hx hb dL_law_429 (lv_at hl 8 rfl) ?_
  refine lv_bipush (v := nI 15) hx hb dL_law_431 (by decide) ?_
  refine r_shrN (a := Y) (k := 15) (r := Y / 32768) hx hb dL_law_433 (by omega) (by decide +kernel) (by rfl) ?_
  refine lv_iconst (v := nI 5) hx hb dL_law_434 (by decide) ?_
  refine r_remN (a := (Y / 32768)) (b := 5) hx hb dL_law_435 (by omega) (by omega) (by omega) ?_
  refine k_C (va_runV (As := [.int (nI c), .int (nI v), .int (nI (((Y / 32768) % 5)))]) (rest := []) hF (c_X3_rename l D cI cA ad n x c v (nI (((Y / 32768) % 5))) (by omega) (by omega) (by omega) (name_ok (by omega))) (cwV 3 hts gL_law_X3_rename rfl rfl rfl (by decide +kernel) ⟨(Nat.le_of_ble_eq_true rfl), (Nat.le_of_ble_eq_true rfl)⟩) (k_pre (sP_c hP) hK (sD_c hD) hT (k := 0) (by decide) cF_0 rfl) rfl rfl hl.1 rfl (lv_room (Nat.le_of_ble_eq_true rfl)) dL_law_436 ⟨(by omega), (by omega)⟩) hD hP hS (fun H locs hP hS => ?_)
  obtain ⟨x1, e_x1⟩ : ∃ x1, x1 = putN x c v (nI (((Y / 32768) % 5))) := ⟨_, rfl⟩
  rw [← e_x1] at hP
  refine lv_iload hx hb dL_law_439 (lv_at hl 0 rfl) ?_
  refine lv_icmp_ne (tgt := 466) hx hb dL_law_441 (by decide) (fun h => absurd rfl h) (fun _ => ?_)
  refine lv_aload_n hx hb dL_law_444 rfl (lv_at hl 3 rfl) ?_
  refine lv_iload hx hb dL_law_445 (lv_at hl 10 rfl) ?_
  refine lv_iload hx hb dL_law_447 (lv_at hl 1 rfl) ?_
  refine k_Ri (va_runV (As := [.int (nI c), .int (nI v)]) (rest := []) hF (c_X3_nameOf l D cI cA ad n x1 c v (by omega) (by omega) (by omega)) (cwV 2 hts gL_law_X3_nameOf rfl rfl rfl (by decide +kernel) ⟨(Nat.le_of_ble_eq_true rfl), (Nat.le_of_ble_eq_true rfl)⟩) (k_pre (sP_c hP) hK (sD_c hD) hT (k := 0) (by decide) cF_0 rfl) rfl rfl hl.1 rfl (lv_room (Nat.le_of_ble_eq_true rfl)) dL_law_449 ⟨(by omega), (by omega)⟩) ?_
  refine r_topi (show (x1 (v + 13) c : Int32) = nI (((Y / 32768) % 5)) from by rw [e_x1, putN_at]) ?_
  refine lv_iload hx hb dL_law_452 (lv_at hl 8 rfl) ?_
  refine lv_bipush (v := nI 15) hx hb dL_law_454 (by decide) ?_
  refine r_shrN (a := Y) (k := 15) (r := Y / 32768) hx hb dL_law_456 (by omega) (by decide +kernel) (by rfl) ?_
  refine lv_iconst (v := nI 5) hx hb dL_law_457 (by decide) ?_
  refine r_remN (a := (Y / 32768)) (b := 5) hx hb dL_law_458 (by omega) (by omega) (by omega) ?_
  refine r_cneN (a := ((Y / 32768) % 5)) (b := ((Y / 32768) % 5)) (tgt := 466) hx hb (by omega) (by omega) dL_law_459 (by decide) (fun h => absurd rfl h) (fun _ => ?_)
  refine lv_iconst (v := nI 1) hx hb dL_law_462 (by decide) ?_
  refine lv_goto (tgt := 467) hx hb dL_law_463 (by decide) ?_
  refine lv_istore_n (lv' := [(3, .int (nI 1)), (15, .int (x (v + 13) c)), (14, .int (nI v)), (0, .ref b0), (1, .ref (ad 0)), (2, .ref (ad 46)), (4, .int (nI T)), (5, .int (nI i)), (7, .int (nI Y)), (9, .int (nI n)), (10, .int (nI c)), (11, .int (nI d)), (12, .int (nI k)), (13, .int (nI w))]) hx hb dL_law_467 rfl hl (by decide) rfl (fun ls hl => ?_)
  refine lv_goto (tgt := 1203) hx hb dL_law_468 (by decide) ?_
  exact W.widen (k := cells + 2) (n := slots + 12) (by omega) (by omega) (kk (K + 1) n x1 sn H locs ls (by omega) (by rw [e_x1]; exact Gd_putN hG hc (by omega)) hP hS (lv_sub hl [3, 4, 5, 0, 6, 7, 8] rfl))
