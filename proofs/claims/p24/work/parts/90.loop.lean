set_option maxHeartbeats 4000000 in
set_option maxRecDepth 100000 in
theorem law_loop {p : Program} {l : Launch} {e : Env} {s : State} {m : MethodId} {below : List Frame} {meth : Method} {c9 : Code} {Q : State → Prop} {D : va_G} {b0 L : Nat} {xs : Nat → Int32} {cI cA : ClassId} {ad : Nat → Nat} {T : Nat} (C0 : lwC p l s m c9 b0 L xs D cI cA ad) (hT9 : T < 1000) (hend : ∀ (H : Heap) (locs : List Loc) (cells slots : Nat) (ls : Array Slot), va_S (fun q => s.heap.size ≤ q) s.heap H locs → cells ≤ 600104 → slots ≤ 7301314 → lv_has ls 19 [(3, .int (nI 1))] → W p l e room_1 s m #[Value.ref b0] below meth c9 H locs cells slots Q (F0 m 1274 ls [])) : ∀ (f i K n : Nat) (x : Nat → Nat → Int32) (sn : Nat → Int32) (H : Heap) (locs : List Loc) (ls : Array Slot) (cells slots : Nat), i + f = T → (1 ≤ n ∨ i = 0) → Gd K n x → va_P D vwCl (wl ad (sF cI cA ad n x sn) 47) H → va_S (fun q => s.heap.size ≤ q) s.heap H locs → cells + 3 * f ≤ 600104 → slots + 18 * f ≤ 7301314 → lv_has ls 19 [(0, .ref b0), (1, .ref (ad 0)), (2, .ref (ad 46)), (3, .int (nI 1)), (4, .int (nI T)), (5, .int (nI i))] → W p l e room_1 s m #[Value.ref b0] below meth c9 H locs cells slots Q (F0 m 54 ls []) := by
  obtain ⟨hx, hb, hF, hK, hD, hT, hXF, hC, hlt, hX, hbl, hL⟩ := id C0
  have hown : s.vm.findClass RL = some m.cls := hF.2.2.2.1
  have hts := hF.2.2.2.2
  have hrm : room_1.cells = 600104 := rfl
  have hrm2 : room_1.slots = 7301314 := rfl
  intro f
  induction f with
  | zero =>
    intro i K n x sn H locs ls cells slots hf hni hG hP hS hcs hss hl
    refine lv_iload hx hb dL_law_54 (lv_at hl 5 rfl) ?_
    refine lv_iload hx hb dL_law_56 (lv_at hl 4 rfl) ?_
    refine r_cgeN (a := i) (b := T) (tgt := 1274) hx hb (by omega) (by omega) dL_law_58 (by decide) (fun _ => ?_) (fun h => absurd h (by omega))
    exact hend H locs cells slots ls hS (by omega) (by omega) (lv_sub hl [3] rfl)
  | succ f ih =>
    intro i K n x sn H locs ls cells slots hf hni hG hP hS hcs hss hl
    have hn := hG.n24
    have htail : ∀ (Y K1 n1 : Nat) (x1 : Nat → Nat → Int32) (sn1 : Nat → Int32) (H : Heap) (locs : List Loc) (ls : Array Slot), Y < 2 ^ 28 → 1 ≤ n1 → Gd K1 n1 x1 → va_P D vwCl (wl ad (sF cI cA ad n1 x1 sn1) 47) H → va_S (fun q => s.heap.size ≤ q) s.heap H locs → lv_has ls 19 [(0, .ref b0), (1, .ref (ad 0)), (2, .ref (ad 46)), (3, .int (nI 1)), (4, .int (nI T)), (5, .int (nI i)), (7, .int (nI Y))] → W p l e room_1 s m #[Value.ref b0] below meth c9 H locs (cells + 2) (slots + 12) Q (F0 m 1203 ls []) := by
      intro Y K1 n1 x1 sn1 H locs ls hY hn1 hG hP hS hl
      have hn := hG.n24
      have h1228 : ∀ (x2 : Nat → Nat → Int32) (sn2 : Nat → Int32) (H : Heap) (locs : List Loc) (cells2 slots2 : Nat) (ls : Array Slot), cells2 ≤ cells + 3 → slots2 ≤ slots + 18 → Gd K1 n1 x2 → va_P D vwCl (wl ad (sF cI cA ad n1 x2 sn2) 47) H → va_S (fun q => s.heap.size ≤ q) s.heap H locs → lv_has ls 19 [(9, .int (nI n1)), (0, .ref b0), (1, .ref (ad 0)), (2, .ref (ad 46)), (3, .int (nI 1)), (4, .int (nI T)), (5, .int (nI i)), (7, .int (nI Y))] → W p l e room_1 s m #[Value.ref b0] below meth c9 H locs cells2 slots2 Q (F0 m 1228 ls []) := by
        intro x2 sn2 H locs cells2 slots2 ls h3 h18 hG hP hS hl
        refine lv_iload hx hb dL_law_1228 (lv_at hl 0 rfl) ?_
        refine r_ifeqN (a := n1) (tgt := 1262) hx hb (by omega) dL_law_1230 (by decide) (fun h => absurd h (by omega)) (fun _ => ?_)
        refine lv_aload_n hx hb dL_law_1233 rfl (lv_at hl 2 rfl) ?_
        refine lv_iload hx hb dL_law_1234 (lv_at hl 7 rfl) ?_
        refine lv_iconst (v := nI 3) hx hb dL_law_1236 (by decide) ?_
        refine r_shrN (a := Y) (k := 3) (r := Y / 8) hx hb dL_law_1237 (by omega) (by decide +kernel) (by rfl) ?_
        refine lv_iload hx hb dL_law_1238 (lv_at hl 0 rfl) ?_
        refine r_remN (a := (Y / 8)) (b := n1) hx hb dL_law_1240 (by omega) (by omega) (by omega) ?_
        refine k_Ri (va_runS (As := [.ref (ad 0), .int (nI (((Y / 8) % n1)))]) (rest := []) hF (c_L_isCard l D cI cA ad n1 x2 (((Y / 8) % n1)) K1 (Nat.mod_lt _ (by omega)) (by omega) hG) (va_cwS 2 hts gL_law_L_isCard rfl rfl rfl (by decide +kernel) ⟨(Nat.le_of_ble_eq_true rfl), (Nat.le_of_ble_eq_true rfl)⟩) (c_pre hK hD hT hP) rfl rfl hl.1 rfl (lv_room (Nat.le_of_ble_eq_true rfl)) dL_law_1241 ⟨(by omega), (by omega)⟩) ?_
        refine r_ifeqB (b := true) (tgt := 1266) hx hb dL_law_1244 (by decide) (fun h => absurd h (by decide)) (fun _ => ?_)
        refine lv_aload_n hx hb dL_law_1247 rfl (lv_at hl 2 rfl) ?_
        refine lv_iload hx hb dL_law_1248 (lv_at hl 7 rfl) ?_
        refine lv_bipush (v := nI 7) hx hb dL_law_1250 (by decide) ?_
        refine r_shrN (a := Y) (k := 7) (r := Y / 128) hx hb dL_law_1252 (by omega) (by decide +kernel) (by rfl) ?_
        refine lv_iload hx hb dL_law_1253 (lv_at hl 0 rfl) ?_
        refine r_remN (a := (Y / 128)) (b := n1) hx hb dL_law_1255 (by omega) (by omega) (by omega) ?_
        refine k_Ri (va_runS (As := [.ref (ad 0), .int (nI (((Y / 128) % n1)))]) (rest := []) hF (c_L_isCard l D cI cA ad n1 x2 (((Y / 128) % n1)) K1 (Nat.mod_lt _ (by omega)) (by omega) hG) (va_cwS 2 hts gL_law_L_isCard rfl rfl rfl (by decide +kernel) ⟨(Nat.le_of_ble_eq_true rfl), (Nat.le_of_ble_eq_true rfl)⟩) (c_pre hK hD hT hP) rfl rfl hl.1 rfl (lv_room (Nat.le_of_ble_eq_true rfl)) dL_law_1256 ⟨(by omega), (by omega)⟩) ?_
        refine r_ifeqB (b := true) (tgt := 1266) hx hb dL_law_1259 (by decide) (fun h => absurd h (by decide)) (fun _ => ?_)
        refine lv_iconst (v := nI 1) hx hb dL_law_1262 (by decide) ?_
        refine lv_goto (tgt := 1267) hx hb dL_law_1263 (by decide) ?_
        refine lv_istore_n (lv' := [(3, .int (nI 1)), (9, .int (nI n1)), (0, .ref b0), (1, .ref (ad 0)), (2, .ref (ad 46)), (4, .int (nI T)), (5, .int (nI i)), (7, .int (nI Y))]) hx hb dL_law_1267 rfl hl (by decide) rfl (fun ls hl => ?_)
        refine r_iincN (k := 6) (a := i) (d := 1) (r := i + 1) (lv' := [(5, .int (nI (i + 1))), (3, .int (nI 1)), (9, .int (nI n1)), (0, .ref b0), (1, .ref (ad 0)), (2, .ref (ad 46)), (4, .int (nI T)), (7, .int (nI Y))]) hx hb dL_law_1268 hl rfl (by omega) (by decide) rfl (fun ls hl => ?_)
        refine lv_goto (tgt := 54) hx hb dL_law_1271 (by decide) ?_
        exact W.widen (k := cells + 3) (n := slots + 18) (by omega) (by omega) (ih (i + 1) K1 n1 x2 sn2 H locs ls (cells + 3) (slots + 18) (by omega) (Or.inl hn1) hG hP hS (by omega) (by omega) (lv_sub hl [3, 4, 5, 1, 6, 0] rfl))
      refine lv_aload_n hx hb dL_law_1203 rfl (lv_at hl 1 rfl) ?_
      refine k_Ri (va_runV (As := []) (rest := []) hF (c_X3_cards l D cI cA ad n1 x1) (cwV 0 hts gL_law_X3_cards rfl rfl rfl (by decide +kernel) ⟨(Nat.le_of_ble_eq_true rfl), (Nat.le_of_ble_eq_true rfl)⟩) (k_pre (sP_c hP) hK (sD_c hD) hT (k := 0) (by decide) cF_0 rfl) rfl rfl hl.1 rfl (lv_room (Nat.le_of_ble_eq_true rfl)) dL_law_1204 ⟨(by omega), (by omega)⟩) ?_
      refine lv_istore (lv' := [(9, .int (nI n1)), (0, .ref b0), (1, .ref (ad 0)), (2, .ref (ad 46)), (3, .int (nI 1)), (4, .int (nI T)), (5, .int (nI i)), (7, .int (nI Y))]) hx hb dL_law_1207 hl (by decide) rfl (fun ls hl => ?_)
      refine lv_iload_n hx hb dL_law_1209 rfl (lv_at hl 4 rfl) ?_
      refine r_ifeqN (a := 1) (tgt := 1266) hx hb (by omega) dL_law_1210 (by decide) (fun h => absurd h (by decide)) (fun _ => ?_)
      refine lv_iload hx hb dL_law_1213 (lv_at hl 6 rfl) ?_
      refine lv_iconst (v := nI 4) hx hb dL_law_1215 (by decide) ?_
      refine r_remN (a := i) (b := 4) hx hb dL_law_1216 (by omega) (by omega) (by omega) ?_
      refine r_ifgtN (a := (i % 4)) (tgt := 1228) hx hb (by omega) dL_law_1217 (by decide) (fun _ => ?_) (fun _ => ?_)
      · exact h1228 x1 sn1 H locs _ _ ls (by omega) (by omega) hG hP hS (lv_sub hl [0, 1, 2, 3, 4, 5, 6, 7] rfl)
      · refine lv_aload_n hx hb dL_law_1220 rfl (lv_at hl 2 rfl) ?_
        refine lv_aload_n hx hb dL_law_1221 rfl (lv_at hl 3 rfl) ?_
        refine k_E (va_runS (As := [.ref (ad 0), .ref (ad 46)]) (rest := []) hF (c_L_arePairs l D cI cA ad n1 x1 K1 sn1 hlt hG) (va_cwS 2 hts gL_law_L_arePairs rfl rfl rfl (by decide +kernel) ⟨(Nat.le_of_ble_eq_true rfl), (Nat.le_of_ble_eq_true rfl)⟩) (e_pre hK hD hT hXF hC hP hS) rfl rfl hl.1 rfl (lv_room (Nat.le_of_ble_eq_true rfl)) dL_law_1222 ⟨(by omega), (by omega)⟩) hD hS (fun H locs x2 sn2 hx2 hP hS => ?_)
        refine r_ifeqN (a := 1) (tgt := 1266) hx hb (by omega) dL_law_1225 (by decide) (fun h => absurd h (by decide)) (fun _ => ?_)
        exact h1228 x2 sn2 H locs _ _ ls (by omega) (by omega) (hG.same hx2) hP hS (lv_sub hl [0, 1, 2, 3, 4, 5, 6, 7] rfl)
    have h124 : ∀ (Y t : Nat) (ls : Array Slot), Y < 2 ^ 28 → t < 16 → (i = 0 → t = 0) → lv_has ls 19 [(8, .int (nI t)), (7, .int (nI Y)), (0, .ref b0), (1, .ref (ad 0)), (2, .ref (ad 46)), (3, .int (nI 1)), (4, .int (nI T)), (5, .int (nI i))] → W p l e room_1 s m #[Value.ref b0] below meth c9 H locs cells slots Q (F0 m 124 ls []) := by
      intro Y t ls hY ht ht0 hl
      obtain ⟨kd, hkd, ekd⟩ := pk_andE (nI (Y / 1024)) (m := nI 1) 1 (by decide)
      have hkd : kd < 2 := hkd
      have hrc : cells + 2 ≤ room_1.cells := by omega
      have hrs : slots + 12 ≤ room_1.slots := by omega
      have kk := fun K1 n1 x1 sn1 H locs ls h1 hG hP hS hl => htail Y K1 n1 x1 sn1 H locs ls hY h1 hG hP hS hl
      rcases Nat.eq_zero_or_pos n with hn0 | hn0
      · have ht1 := ht0 (by omega)
        refine lv_aload_n hx hb dL_law_124 rfl (lv_at hl 3 rfl) ?_
        refine k_Ri (va_runV (As := []) (rest := []) hF (c_X3_cards l D cI cA ad n x) (cwV 0 hts gL_law_X3_cards rfl rfl rfl (by decide +kernel) ⟨(Nat.le_of_ble_eq_true rfl), (Nat.le_of_ble_eq_true rfl)⟩) (k_pre (sP_c hP) hK (sD_c hD) hT (k := 0) (by decide) cF_0 rfl) rfl rfl hl.1 rfl (lv_room (Nat.le_of_ble_eq_true rfl)) dL_law_125 ⟨(by omega), (by omega)⟩) ?_
        refine lv_istore (lv' := [(9, .int (nI n)), (8, .int (nI t)), (7, .int (nI Y)), (0, .ref b0), (1, .ref (ad 0)), (2, .ref (ad 46)), (3, .int (nI 1)), (4, .int (nI T)), (5, .int (nI i))]) hx hb dL_law_128 hl (by decide) rfl (fun ls hl => ?_)
        refine lv_iload hx hb dL_law_130 (lv_at hl 0 rfl) ?_
        refine r_ifneN (a := n) (tgt := 139) hx hb (by omega) dL_law_132 (by decide) (fun h => absurd hn0 h) (fun _ => ?_)
        refine lv_iconst (v := nI 0) hx hb dL_law_135 (by decide) ?_
        refine lv_goto (tgt := 144) hx hb dL_law_136 (by decide) ?_
        refine lv_istore (lv' := [(10, .int (nI 0)), (9, .int (nI n)), (8, .int (nI t)), (7, .int (nI Y)), (0, .ref b0), (1, .ref (ad 0)), (2, .ref (ad 46)), (3, .int (nI 1)), (4, .int (nI T)), (5, .int (nI i))]) hx hb dL_law_144 hl (by decide) rfl (fun ls hl => ?_)
        refine lv_iload hx hb dL_law_146 (lv_at hl 1 rfl) ?_
        refine r_ifneN (a := n) (tgt := 155) hx hb (by omega) dL_law_148 (by decide) (fun h => absurd hn0 h) (fun _ => ?_)
        refine lv_iconst (v := nI 0) hx hb dL_law_151 (by decide) ?_
        refine lv_goto (tgt := 162) hx hb dL_law_152 (by decide) ?_
        refine lv_istore (lv' := [(11, .int (nI 0)), (10, .int (nI 0)), (9, .int (nI n)), (8, .int (nI t)), (7, .int (nI Y)), (0, .ref b0), (1, .ref (ad 0)), (2, .ref (ad 46)), (3, .int (nI 1)), (4, .int (nI T)), (5, .int (nI i))]) hx hb dL_law_162 hl (by decide) rfl (fun ls hl => ?_)
        refine lv_iload hx hb dL_law_164 (lv_at hl 4 rfl) ?_
        refine lv_bipush (v := nI 10) hx hb dL_law_166 (by decide) ?_
        refine r_shrN (a := Y) (k := 10) (r := Y / 1024) hx hb dL_law_168 (by omega) (by decide +kernel) (by rfl) ?_
        refine lv_iconst (v := nI 1) hx hb dL_law_169 (by decide) ?_
        refine lv_iand hx hb dL_law_170 ?_
        refine r_topi (show ((nI ((Y / 1024))) &&& (nI 1) : Int32) = nI kd from ekd) ?_
        refine lv_istore (lv' := [(12, .int (nI kd)), (11, .int (nI 0)), (10, .int (nI 0)), (9, .int (nI n)), (8, .int (nI t)), (7, .int (nI Y)), (0, .ref b0), (1, .ref (ad 0)), (2, .ref (ad 46)), (3, .int (nI 1)), (4, .int (nI T)), (5, .int (nI i))]) hx hb dL_law_171 hl (by decide) rfl (fun ls hl => ?_)
        refine lv_iload hx hb dL_law_173 (lv_at hl 5 rfl) ?_
        refine lv_bipush (v := nI 11) hx hb dL_law_175 (by decide) ?_
        refine r_shrN (a := Y) (k := 11) (r := Y / 2048) hx hb dL_law_177 (by omega) (by decide +kernel) (by rfl) ?_
        refine lv_bipush (v := nI 6) hx hb dL_law_178 (by decide) ?_
        refine r_remN (a := (Y / 2048)) (b := 6) hx hb dL_law_180 (by omega) (by omega) (by omega) ?_
        refine lv_istore (lv' := [(13, .int (nI (((Y / 2048) % 6)))), (12, .int (nI kd)), (11, .int (nI 0)), (10, .int (nI 0)), (9, .int (nI n)), (8, .int (nI t)), (7, .int (nI Y)), (0, .ref b0), (1, .ref (ad 0)), (2, .ref (ad 46)), (3, .int (nI 1)), (4, .int (nI T)), (5, .int (nI i))]) hx hb dL_law_181 hl (by decide) rfl (fun ls hl => ?_)
        refine lv_iload hx hb dL_law_183 (lv_at hl 5 rfl) ?_
        refine r_ifneN (a := t) (tgt := 277) hx hb (by omega) dL_law_185 (by decide) (fun h => absurd ht1 h) (fun _ => ?_)
        exact deed_add C0 hG hP hS hY hrc hrs (lv_sub hl [7, 8, 9, 10, 11, 12, 6, 4, 3, 2, 1, 0] rfl) kk
      · refine lv_aload_n hx hb dL_law_124 rfl (lv_at hl 3 rfl) ?_
        refine k_Ri (va_runV (As := []) (rest := []) hF (c_X3_cards l D cI cA ad n x) (cwV 0 hts gL_law_X3_cards rfl rfl rfl (by decide +kernel) ⟨(Nat.le_of_ble_eq_true rfl), (Nat.le_of_ble_eq_true rfl)⟩) (k_pre (sP_c hP) hK (sD_c hD) hT (k := 0) (by decide) cF_0 rfl) rfl rfl hl.1 rfl (lv_room (Nat.le_of_ble_eq_true rfl)) dL_law_125 ⟨(by omega), (by omega)⟩) ?_
        refine lv_istore (lv' := [(9, .int (nI n)), (8, .int (nI t)), (7, .int (nI Y)), (0, .ref b0), (1, .ref (ad 0)), (2, .ref (ad 46)), (3, .int (nI 1)), (4, .int (nI T)), (5, .int (nI i))]) hx hb dL_law_128 hl (by decide) rfl (fun ls hl => ?_)
        refine lv_iload hx hb dL_law_130 (lv_at hl 0 rfl) ?_
        refine r_ifneN (a := n) (tgt := 139) hx hb (by omega) dL_law_132 (by decide) (fun _ => ?_) (fun h => absurd h (by omega))
        refine lv_iload hx hb dL_law_139 (lv_at hl 2 rfl) ?_
        refine lv_iload hx hb dL_law_141 (lv_at hl 0 rfl) ?_
        refine r_remN (a := Y) (b := n) hx hb dL_law_143 (by omega) (by omega) (by omega) ?_
        refine lv_istore (lv' := [(10, .int (nI ((Y % n)))), (9, .int (nI n)), (8, .int (nI t)), (7, .int (nI Y)), (0, .ref b0), (1, .ref (ad 0)), (2, .ref (ad 46)), (3, .int (nI 1)), (4, .int (nI T)), (5, .int (nI i))]) hx hb dL_law_144 hl (by decide) rfl (fun ls hl => ?_)
        refine lv_iload hx hb dL_law_146 (lv_at hl 1 rfl) ?_
        refine r_ifneN (a := n) (tgt := 155) hx hb (by omega) dL_law_148 (by decide) (fun _ => ?_) (fun h => absurd h (by omega))
        refine lv_iload hx hb dL_law_155 (lv_at hl 3 rfl) ?_
        refine lv_iconst (v := nI 5) hx hb dL_law_157 (by decide) ?_
        refine r_shrN (a := Y) (k := 5) (r := Y / 32) hx hb dL_law_158 (by omega) (by decide +kernel) (by rfl) ?_
        refine lv_iload hx hb dL_law_159 (lv_at hl 1 rfl) ?_
        refine r_remN (a := (Y / 32)) (b := n) hx hb dL_law_161 (by omega) (by omega) (by omega) ?_
        refine lv_istore (lv' := [(11, .int (nI (((Y / 32) % n)))), (10, .int (nI ((Y % n)))), (9, .int (nI n)), (8, .int (nI t)), (7, .int (nI Y)), (0, .ref b0), (1, .ref (ad 0)), (2, .ref (ad 46)), (3, .int (nI 1)), (4, .int (nI T)), (5, .int (nI i))]) hx hb dL_law_162 hl (by decide) rfl (fun ls hl => ?_)
        refine lv_iload hx hb dL_law_164 (lv_at hl 4 rfl) ?_
        refine lv_bipush (v := nI 10) hx hb dL_law_166 (by decide) ?_
        refine r_shrN (a := Y) (k := 10) (r := Y / 1024) hx hb dL_law_168 (by omega) (by decide +kernel) (by rfl) ?_
        refine lv_iconst (v := nI 1) hx hb dL_law_169 (by decide) ?_
        refine lv_iand hx hb dL_law_170 ?_
        refine r_topi (show ((nI ((Y / 1024))) &&& (nI 1) : Int32) = nI kd from ekd) ?_
        refine lv_istore (lv' := [(12, .int (nI kd)), (11, .int (nI (((Y / 32) % n)))), (10, .int (nI ((Y % n)))), (9, .int (nI n)), (8, .int (nI t)), (7, .int (nI Y)), (0, .ref b0), (1, .ref (ad 0)), (2, .ref (ad 46)), (3, .int (nI 1)), (4, .int (nI T)), (5, .int (nI i))]) hx hb dL_law_171 hl (by decide) rfl (fun ls hl => ?_)
        refine lv_iload hx hb dL_law_173 (lv_at hl 5 rfl) ?_
        refine lv_bipush (v := nI 11) hx hb dL_law_175 (by decide) ?_
        refine r_shrN (a := Y) (k := 11) (r := Y / 2048) hx hb dL_law_177 (by omega) (by decide +kernel) (by rfl) ?_
        refine lv_bipush (v := nI 6) hx hb dL_law_178 (by decide) ?_
        refine r_remN (a := (Y / 2048)) (b := 6) hx hb dL_law_180 (by omega) (by omega) (by omega) ?_
        refine lv_istore (lv' := [(13, .int (nI (((Y / 2048) % 6)))), (12, .int (nI kd)), (11, .int (nI (((Y / 32) % n)))), (10, .int (nI ((Y % n)))), (9, .int (nI n)), (8, .int (nI t)), (7, .int (nI Y)), (0, .ref b0), (1, .ref (ad 0)), (2, .ref (ad 46)), (3, .int (nI 1)), (4, .int (nI T)), (5, .int (nI i))]) hx hb dL_law_181 hl (by decide) rfl (fun ls hl => ?_)
        have hc := Nat.mod_lt Y hn0
        have hd := Nat.mod_lt (Y / 32) hn0
        have hw : Y / 2048 % 6 < 6 := Nat.mod_lt _ (by decide)
        refine lv_iload hx hb dL_law_183 (lv_at hl 5 rfl) ?_
        refine r_ifneN (a := t) (tgt := 277) hx hb (by omega) dL_law_185 (by decide) (fun _ => ?_) (fun _ => ?_)
        rotate_left
        exact deed_add C0 hG hP hS hY hrc hrs (lv_sub hl [7, 8, 9, 10, 11, 12, 6, 4, 3, 2, 1, 0] rfl) kk
        refine lv_iload hx hb dL_law_277 (lv_at hl 5 rfl) ?_
        refine lv_bipush (v := nI 6) hx hb dL_law_279 (by decide) ?_
        refine r_cgeN (a := t) (b := 6) (tgt := 398) hx hb (by omega) (by omega) dL_law_281 (by decide) (fun _ => ?_) (fun _ => ?_)
        rotate_left
        exact deed_turn C0 hG hP hS hY hc hd hkd hw hrc hrs (lv_sub hl [7, 8, 9, 10, 11, 12, 6, 4, 3, 2, 1, 0] rfl) kk
        refine lv_iload hx hb dL_law_398 (lv_at hl 5 rfl) ?_
        refine lv_bipush (v := nI 6) hx hb dL_law_400 (by decide) ?_
        refine r_cneN (a := t) (b := 6) (tgt := 471) hx hb (by omega) (by omega) dL_law_402 (by decide) (fun _ => ?_) (fun _ => ?_)
        rotate_left
        exact deed_rename C0 hG hP hS hY hc hd hkd hw hrc hrs (lv_sub hl [7, 8, 9, 10, 11, 12, 6, 4, 3, 2, 1, 0] rfl) kk
        refine lv_iload hx hb dL_law_471 (lv_at hl 5 rfl) ?_
        refine lv_bipush (v := nI 7) hx hb dL_law_473 (by decide) ?_
        refine r_cneN (a := t) (b := 7) (tgt := 654) hx hb (by omega) (by omega) dL_law_475 (by decide) (fun _ => ?_) (fun _ => ?_)
        rotate_left
        exact deed_sync C0 hG hP hS hY hc hd hkd hw hrc hrs (lv_sub hl [7, 8, 9, 10, 11, 12, 6, 4, 3, 2, 1, 0] rfl) kk
        refine lv_iload hx hb dL_law_654 (lv_at hl 5 rfl) ?_
        refine lv_bipush (v := nI 10) hx hb dL_law_656 (by decide) ?_
        refine r_cgeN (a := t) (b := 10) (tgt := 781) hx hb (by omega) (by omega) dL_law_658 (by decide) (fun _ => ?_) (fun _ => ?_)
        rotate_left
        exact deed_link C0 hG hP hS hY hc hd hkd hw hrc hrs (lv_sub hl [7, 8, 9, 10, 11, 12, 6, 4, 3, 2, 1, 0] rfl) kk
        refine lv_iload hx hb dL_law_781 (lv_at hl 5 rfl) ?_
        refine lv_bipush (v := nI 10) hx hb dL_law_783 (by decide) ?_
        refine r_cneN (a := t) (b := 10) (tgt := 924) hx hb (by omega) (by omega) dL_law_785 (by decide) (fun _ => ?_) (fun _ => ?_)
        rotate_left
        exact deed_cut C0 hG hP hS hY hc hd hkd hw hrc hrs (lv_sub hl [7, 8, 9, 10, 11, 12, 6, 4, 3, 2, 1, 0] rfl) kk
        refine lv_iload hx hb dL_law_924 (lv_at hl 5 rfl) ?_
        refine lv_bipush (v := nI 14) hx hb dL_law_926 (by decide) ?_
        refine r_cgeN (a := t) (b := 14) (tgt := 1049) hx hb (by omega) (by omega) dL_law_928 (by decide) (fun _ => ?_) (fun _ => ?_)
        rotate_left
        exact deed_edit C0 hG hP hS hY hc hd hkd hw hrc hrs (lv_sub hl [7, 8, 9, 10, 11, 12, 6, 4, 3, 2, 1, 0] rfl) kk
        exact deed_downs C0 hG hP hS hY hc hd hkd hw hrc hrs (lv_sub hl [7, 8, 9, 10, 11, 12, 6, 4, 3, 2, 1, 0] rfl) kk
    have h98 : ∀ (X : Int32) (ls : Array Slot), lv_has ls 19 [(6, .int X), (0, .ref b0), (1, .ref (ad 0)), (2, .ref (ad 46)), (3, .int (nI 1)), (4, .int (nI T)), (5, .int (nI i))] → W p l e room_1 s m #[Value.ref b0] below meth c9 H locs cells slots Q (F0 m 98 ls []) := by
      intro X ls hl
      obtain ⟨Y, hY, eY⟩ := pk_andE (X >>> (nI 4 &&& 31)) (m := 268435455) 28 (by decide +kernel)
      obtain ⟨t, ht, et⟩ := pk_andE X (m := nI 15) 4 (by decide)
      have ht : t < 16 := ht
      refine lv_iload hx hb dL_law_98 (lv_at hl 0 rfl) ?_
      refine lv_iconst (v := nI 4) hx hb dL_law_100 (by decide) ?_
      refine lv_ishr hx hb dL_law_101 ?_
      refine lv_ldc (own := RL) (index := 73) (v := 268435455) hx hb hown (hts (.constant RL 73 (268435455)) (by decide +kernel)) dL_law_102 ?_
      refine lv_iand hx hb dL_law_104 ?_
      refine r_topi (show _ = nI Y from eY) ?_
      refine lv_istore (lv' := [(7, .int (nI Y)), (6, .int X), (0, .ref b0), (1, .ref (ad 0)), (2, .ref (ad 46)), (3, .int (nI 1)), (4, .int (nI T)), (5, .int (nI i))]) hx hb dL_law_105 hl (by decide) rfl (fun ls hl => ?_)
      refine lv_iload hx hb dL_law_107 (lv_at hl 7 rfl) ?_
      refine lv_iconst (v := nI 4) hx hb dL_law_109 (by decide) ?_
      refine r_cgeN (a := i) (b := 4) (tgt := 117) hx hb (by omega) (by omega) dL_law_110 (by decide) (fun _ => ?_) (fun _ => ?_)
      · refine lv_iload hx hb dL_law_117 (lv_at hl 1 rfl) ?_
        refine lv_bipush (v := nI 15) hx hb dL_law_119 (by decide) ?_
        refine lv_iand hx hb dL_law_121 ?_
        refine r_topi (show (X &&& (nI 15) : Int32) = nI t from et) ?_
        refine lv_istore (lv' := [(8, .int (nI t)), (7, .int (nI Y)), (6, .int X), (0, .ref b0), (1, .ref (ad 0)), (2, .ref (ad 46)), (3, .int (nI 1)), (4, .int (nI T)), (5, .int (nI i))]) hx hb dL_law_122 hl (by decide) rfl (fun ls hl => ?_)
        exact h124 Y t ls hY ht (by omega) (lv_sub hl [0, 1, 3, 4, 5, 6, 7, 8] rfl)
      · refine lv_iconst (v := nI 0) hx hb dL_law_113 (by decide) ?_
        refine lv_goto (tgt := 122) hx hb dL_law_114 (by decide) ?_
        refine lv_istore (lv' := [(8, .int (nI 0)), (7, .int (nI Y)), (6, .int X), (0, .ref b0), (1, .ref (ad 0)), (2, .ref (ad 46)), (3, .int (nI 1)), (4, .int (nI T)), (5, .int (nI i))]) hx hb dL_law_122 hl (by decide) rfl (fun ls hl => ?_)
        exact h124 Y 0 ls hY (by decide) (fun _ => rfl) (lv_sub hl [0, 1, 3, 4, 5, 6, 7, 8] rfl)
    refine lv_iload hx hb dL_law_54 (lv_at hl 5 rfl) ?_
    refine lv_iload hx hb dL_law_56 (lv_at hl 4 rfl) ?_
    refine r_cgeN (a := i) (b := T) (tgt := 1274) hx hb (by omega) (by omega) dL_law_58 (by decide) (fun h => absurd h (by omega)) (fun _ => ?_)
    refine lv_iload_n hx hb dL_law_61 rfl (lv_at hl 3 rfl) ?_
    refine r_ifeqN (a := 1) (tgt := 1274) hx hb (by omega) dL_law_62 (by decide) (fun h => absurd h (by decide)) (fun _ => ?_)
    refine lv_iload hx hb dL_law_65 (lv_at hl 5 rfl) ?_
    refine lv_aload_n hx hb dL_law_67 rfl (lv_at hl 0 rfl) ?_
    refine va_slen hx hb hX hbl (Nat.not_le.mpr hbl) hS dL_law_68 ?_
    refine r_cgeN (a := i) (b := L) (tgt := 79) hx hb (by omega) (by omega) dL_law_69 (by decide) (fun _ => ?_) (fun hi => ?_)
    · refine lv_ldc (own := RL) (index := 71) (v := 1830003) hx hb hown (hts (.constant RL 71 (1830003)) (by decide +kernel)) dL_law_79 ?_
      refine lv_iload hx hb dL_law_81 (lv_at hl 5 rfl) ?_
      refine lv_imul hx hb dL_law_83 ?_
      refine lv_iload hx hb dL_law_84 (lv_at hl 5 rfl) ?_
      refine lv_imul hx hb dL_law_86 ?_
      refine lv_ldc (own := RL) (index := 72) (v := 61013) hx hb hown (hts (.constant RL 72 (61013)) (by decide +kernel)) dL_law_87 ?_
      refine lv_iload hx hb dL_law_89 (lv_at hl 5 rfl) ?_
      refine lv_imul hx hb dL_law_91 ?_
      refine lv_iadd hx hb dL_law_92 ?_
      refine lv_bipush (v := nI 94) hx hb dL_law_93 (by decide) ?_
      refine lv_iadd hx hb dL_law_95 ?_
      refine lv_istore (lv' := [(6, .int ((((1830003 * (nI i)) * (nI i)) + (61013 * (nI i))) + (nI 94))), (0, .ref b0), (1, .ref (ad 0)), (2, .ref (ad 46)), (3, .int (nI 1)), (4, .int (nI T)), (5, .int (nI i))]) hx hb dL_law_96 hl (by decide) rfl (fun ls hl => ?_)
      exact h98 _ ls (lv_sub hl [0, 1, 2, 3, 4, 5, 6] rfl)
    · refine lv_aload_n hx hb dL_law_72 rfl (lv_at hl 0 rfl) ?_
      refine lv_iload hx hb dL_law_73 (lv_at hl 5 rfl) ?_
      refine va_sld hx hb hX hbl (Nat.not_le.mpr hbl) hS (vp_in_nI hi (by omega)) dL_law_75 ?_
      refine lv_goto (tgt := 96) hx hb dL_law_76 (by decide) ?_
      refine lv_istore (lv' := [(6, .int (xs (nI i).toNatClampNeg)), (0, .ref b0), (1, .ref (ad 0)), (2, .ref (ad 46)), (3, .int (nI 1)), (4, .int (nI T)), (5, .int (nI i))]) hx hb dL_law_96 hl (by decide) rfl (fun ls hl => ?_)
      exact h98 _ ls (lv_sub hl [0, 1, 2, 3, 4, 5, 6] rfl)
