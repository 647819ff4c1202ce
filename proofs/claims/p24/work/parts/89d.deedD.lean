set_option maxHeartbeats 4000000 in
set_option maxRecDepth 100000 in
theorem deed_downs {p : Program} {l : Launch} {e : Env} {s : State} {m : MethodId} {below : List Frame} {meth : Method} {c9 : Code} {H : Heap} {locs : List Loc} {cells slots : Nat} {Q : State → Prop} {ls : Array Slot} {D : va_G} {b0 L : Nat} {xs : Nat → Int32} {cI cA : ClassId} {ad : Nat → Nat} {K n : Nat} {x : Nat → Nat → Int32} {sn : Nat → Int32} {i T Y c d k w : Nat} (C0 : lwC p l s m c9 b0 L xs D cI cA ad) (hG : Gd K n x) (hP : va_P D vwCl (wl ad (sF cI cA ad n x sn) 47) H) (hS : va_S (fun q => s.heap.size ≤ q) s.heap H locs) (hY : Y < 2 ^ 28) (hc : c < n) (hd : d < n) (hk : k < 2) (hw : w < 6) (hrc : cells + 2 ≤ room_1.cells) (hrs : slots + 12 ≤ room_1.slots) (hl : lv_has ls 19 [(0, .ref b0), (1, .ref (ad 0)), (2, .ref (ad 46)), (3, .int (nI 1)), (4, .int (nI T)), (5, .int (nI i)), (7, .int (nI Y)), (9, .int (nI n)), (10, .int (nI c)), (11, .int (nI d)), (12, .int (nI k)), (13, .int (nI w))]) (kk : ∀ (K' n' : Nat) (x' : Nat → Nat → Int32) (sn' : Nat → Int32) (H' : Heap) (locs' : List Loc) (ls' : Array Slot), 1 ≤ n' → Gd K' n' x' → va_P D vwCl (wl ad (sF cI cA ad n' x' sn') 47) H' → va_S (fun q => s.heap.size ≤ q) s.heap H' locs' → lv_has ls' 19 [(0, .ref b0), (1, .ref (ad 0)), (2, .ref (ad 46)), (3, .int (nI 1)), (4, .int (nI T)), (5, .int (nI i)), (7, .int (nI Y))] → W p l e room_1 s m #[Value.ref b0] below meth c9 H' locs' (cells + 2) (slots + 12) Q (F0 m 1203 ls' [])) : W p l e room_1 s m #[Value.ref b0] below meth c9 H locs cells slots Q (F0 m 1049 ls []) := by
  obtain ⟨hx, hb, hF, hK, hD, hT, hXF, hC, hlt, hX, hbl, hL⟩ := C0
  have hown : s.vm.findClass RL = some m.cls := hF.2.2.2.1
  have hts := hF.2.2.2.2
  have hn := hG.n24
  obtain ⟨M, eM⟩ : ∃ M, M = Mp n x := ⟨_, rfl⟩
  have hM := Mp_le (n := n) (x := x)
  rw [← eM] at hM
  obtain ⟨u, hu, eu⟩ := pk_andE (nI (Y / 16384)) (m := nI 3) 2 (by decide)
  have hu : u < 4 := hu
  refine lv_aload_n hx hb dL_law_1049 rfl (lv_at hl 1 rfl) ?_
  refine k_C (va_runV (As := []) (rest := []) hF (c_X3_pairs l D cI cA ad n x (by omega)) (cwV 0 hts gL_law_X3_pairs rfl rfl rfl (by decide +kernel) ⟨(Nat.le_of_ble_eq_true rfl), (Nat.le_of_ble_eq_true rfl)⟩) (k_pre (sP_c hP) hK (sD_c hD) hT (k := 0) (by decide) cF_0 rfl) rfl rfl hl.1 rfl (lv_room (Nat.le_of_ble_eq_true rfl)) dL_law_1050 ⟨(by omega), (by omega)⟩) hD hP hS (fun H locs hP hS => ?_)
  refine r_topi (show (tlC x n : Int32) = nI M from (hG.tl (fun _ _ => rfl)).trans (by rw [eM])) ?_
  obtain ⟨xa, e_xa⟩ : ∃ xa, xa = tlS x n := ⟨_, rfl⟩
  rw [← e_xa] at hP
  have hxa : ∀ a, a ≠ 12 → xa a = x a := fun a ha => by rw [e_xa, tlS_o ha]
  have hGa : Gd K n xa := hG.same hxa
  refine lv_istore (lv' := [(14, .int (nI M)), (0, .ref b0), (1, .ref (ad 0)), (2, .ref (ad 46)), (3, .int (nI 1)), (4, .int (nI T)), (5, .int (nI i)), (7, .int (nI Y)), (9, .int (nI n)), (10, .int (nI c)), (11, .int (nI d)), (12, .int (nI k)), (13, .int (nI w))]) hx hb dL_law_1053 hl (by decide) rfl (fun ls hl => ?_)
  by_cases hcd : c = d
  · rw [← hcd] at hl
    refine lv_iload hx hb dL_law_1055 (lv_at hl 9 rfl) ?_
    refine lv_iload hx hb dL_law_1057 (lv_at hl 10 rfl) ?_
    refine r_cneN (a := c) (b := c) (tgt := 1066) hx hb (by omega) (by omega) dL_law_1059 (by decide) (fun h => absurd rfl h) (fun _ => ?_)
    refine lv_iconst (v := nI 0) hx hb dL_law_1062 (by decide) ?_
    refine lv_goto (tgt := 1074) hx hb dL_law_1063 (by decide) ?_
    refine lv_istore (lv' := [(15, .int (nI 0)), (14, .int (nI M)), (0, .ref b0), (1, .ref (ad 0)), (2, .ref (ad 46)), (3, .int (nI 1)), (4, .int (nI T)), (5, .int (nI i)), (7, .int (nI Y)), (9, .int (nI n)), (10, .int (nI c)), (11, .int (nI c)), (12, .int (nI k)), (13, .int (nI w))]) hx hb dL_law_1074 hl (by decide) rfl (fun ls hl => ?_)
    have h1096 : ∀ (g : Bool) (ls : Array Slot), lv_has ls 19 [(15, .int (nI 0)), (14, .int (nI M)), (0, .ref b0), (1, .ref (ad 0)), (2, .ref (ad 46)), (3, .int (nI 1)), (4, .int (nI T)), (5, .int (nI i)), (7, .int (nI Y)), (9, .int (nI n)), (10, .int (nI c)), (11, .int (nI c)), (12, .int (nI k)), (13, .int (nI w))] → W p l e room_1 s m #[Value.ref b0] below meth c9 H locs cells slots Q (F0 m 1096 ls [.int (bI g), .int (nI c), .int (nI c), .ref (ad 0)]) := by
      intro g ls hl
      refine k_O (vx_runSW (As := [.ref (ad 0), .int (nI c), .int (nI c), .int (bI g)]) (rest := []) hF (w_downs_Tc l D cI cA ad n xa c g hlt (by omega) (by omega)) (vx_cwSW 4 hts gL_law_L_downs rfl rfl rfl (by decide +kernel) ⟨(Nat.le_of_ble_eq_true rfl), (Nat.le_of_ble_eq_true rfl)⟩) (w_pre hK hD hT hXF hC hP hS) rfl rfl hl.1 rfl (lv_room (Nat.le_of_ble_eq_true rfl)) dL_law_1096 ⟨(by omega), (by omega)⟩) hD hP hS (fun H locs hP hS => ?_)
      refine lv_istore (lv' := [(16, .int ((-2))), (15, .int (nI 0)), (14, .int (nI M)), (0, .ref b0), (1, .ref (ad 0)), (2, .ref (ad 46)), (3, .int (nI 1)), (4, .int (nI T)), (5, .int (nI i)), (7, .int (nI Y)), (9, .int (nI n)), (10, .int (nI c)), (11, .int (nI c)), (12, .int (nI k)), (13, .int (nI w))]) hx hb dL_law_1099 hl (by decide) rfl (fun ls hl => ?_)
      refine lv_iload hx hb dL_law_1101 (lv_at hl 11 rfl) ?_
      refine lv_iload hx hb dL_law_1103 (lv_at hl 12 rfl) ?_
      refine r_cneN (a := c) (b := c) (tgt := 1123) hx hb (by omega) (by omega) dL_law_1105 (by decide) (fun h => absurd rfl h) (fun _ => ?_)
      refine lv_iload hx hb dL_law_1108 (lv_at hl 0 rfl) ?_
      refine lv_bipush (v := (-2)) hx hb dL_law_1110 (by decide) ?_
      refine lv_icmp_ne (tgt := 1119) hx hb dL_law_1112 (by decide) (fun h => absurd rfl h) (fun _ => ?_)
      refine lv_iconst (v := nI 1) hx hb dL_law_1115 (by decide) ?_
      refine lv_goto (tgt := 1202) hx hb dL_law_1116 (by decide) ?_
      refine lv_istore_n (lv' := [(3, .int (nI 1)), (16, .int ((-2))), (15, .int (nI 0)), (14, .int (nI M)), (0, .ref b0), (1, .ref (ad 0)), (2, .ref (ad 46)), (4, .int (nI T)), (5, .int (nI i)), (7, .int (nI Y)), (9, .int (nI n)), (10, .int (nI c)), (11, .int (nI c)), (12, .int (nI k)), (13, .int (nI w))]) hx hb dL_law_1202 rfl hl (by decide) rfl (fun ls hl => ?_)
      exact W.widen (k := cells + 2) (n := slots + 12) (by omega) (by omega) (kk K n xa sn H locs ls (by omega) hGa hP hS (lv_sub hl [4, 5, 6, 0, 7, 8, 9] rfl))
    refine lv_aload_n hx hb dL_law_1076 rfl (lv_at hl 3 rfl) ?_
    refine lv_iload hx hb dL_law_1077 (lv_at hl 10 rfl) ?_
    refine lv_iload hx hb dL_law_1079 (lv_at hl 11 rfl) ?_
    refine lv_iload hx hb dL_law_1081 (lv_at hl 8 rfl) ?_
    refine lv_bipush (v := nI 14) hx hb dL_law_1083 (by decide) ?_
    refine r_shrN (a := Y) (k := 14) (r := Y / 16384) hx hb dL_law_1085 (by omega) (by decide +kernel) (by rfl) ?_
    refine lv_iconst (v := nI 3) hx hb dL_law_1086 (by decide) ?_
    refine lv_iand hx hb dL_law_1087 ?_
    refine r_topi (show ((nI ((Y / 16384))) &&& (nI 3) : Int32) = nI u from eu) ?_
    refine r_ifneN (a := u) (tgt := 1095) hx hb (by omega) dL_law_1088 (by decide) (fun _ => ?_) (fun _ => ?_)
    · refine lv_iconst (v := bI false) hx hb dL_law_1095 (by decide) ?_
      exact h1096 false ls hl
    · refine lv_iconst (v := bI true) hx hb dL_law_1091 (by decide) ?_
      refine lv_goto (tgt := 1096) hx hb dL_law_1092 (by decide) ?_
      exact h1096 true ls hl
  · refine lv_iload hx hb dL_law_1055 (lv_at hl 9 rfl) ?_
    refine lv_iload hx hb dL_law_1057 (lv_at hl 10 rfl) ?_
    refine r_cneN (a := c) (b := d) (tgt := 1066) hx hb (by omega) (by omega) dL_law_1059 (by decide) (fun _ => ?_) (fun h => absurd h hcd)
    refine lv_aload_n hx hb dL_law_1066 rfl (lv_at hl 2 rfl) ?_
    refine lv_iload hx hb dL_law_1067 (lv_at hl 9 rfl) ?_
    refine lv_iload hx hb dL_law_1069 (lv_at hl 10 rfl) ?_
    refine k_Ri (va_runV (As := [.int (nI c), .int (nI d)]) (rest := []) hF (c_X3_score l D cI cA ad n xa c d (by omega) (by omega) hcd (by omega)) (cwV 2 hts gL_law_X3_score rfl rfl rfl (by decide +kernel) ⟨(Nat.le_of_ble_eq_true rfl), (Nat.le_of_ble_eq_true rfl)⟩) (k_pre (sP_c hP) hK (sD_c hD) hT (k := 0) (by decide) cF_0 rfl) rfl rfl hl.1 rfl (lv_room (Nat.le_of_ble_eq_true rfl)) dL_law_1071 ⟨(by omega), (by omega)⟩) ?_
    refine r_topi (show (sc xa c d : Int32) = sc x c d from sc_same hxa c d) ?_
    refine lv_istore (lv' := [(15, .int (sc x c d)), (14, .int (nI M)), (0, .ref b0), (1, .ref (ad 0)), (2, .ref (ad 46)), (3, .int (nI 1)), (4, .int (nI T)), (5, .int (nI i)), (7, .int (nI Y)), (9, .int (nI n)), (10, .int (nI c)), (11, .int (nI d)), (12, .int (nI k)), (13, .int (nI w))]) hx hb dL_law_1074 hl (by decide) rfl (fun ls hl => ?_)
    have h1096 : ∀ (g : Bool) (ls : Array Slot), lv_has ls 19 [(15, .int (sc x c d)), (14, .int (nI M)), (0, .ref b0), (1, .ref (ad 0)), (2, .ref (ad 46)), (3, .int (nI 1)), (4, .int (nI T)), (5, .int (nI i)), (7, .int (nI Y)), (9, .int (nI n)), (10, .int (nI c)), (11, .int (nI d)), (12, .int (nI k)), (13, .int (nI w))] → W p l e room_1 s m #[Value.ref b0] below meth c9 H locs cells slots Q (F0 m 1096 ls [.int (bI g), .int (nI d), .int (nI c), .ref (ad 0)]) := by
      intro g ls hl
      by_cases hsg : sg x c d = 0
      · refine k_O (vx_runSW (As := [.ref (ad 0), .int (nI c), .int (nI d), .int (bI g)]) (rest := []) hF (w_downs_Td l D cI cA ad n xa c d g hlt (by omega) (by omega) hcd (by omega) (by rw [sg_same hxa]; exact hsg)) (vx_cwSW 4 hts gL_law_L_downs rfl rfl rfl (by decide +kernel) ⟨(Nat.le_of_ble_eq_true rfl), (Nat.le_of_ble_eq_true rfl)⟩) (w_pre hK hD hT hXF hC hP hS) rfl rfl hl.1 rfl (lv_room (Nat.le_of_ble_eq_true rfl)) dL_law_1096 ⟨(by omega), (by omega)⟩) hD hP hS (fun H locs hP hS => ?_)
        refine lv_istore (lv' := [(16, .int ((-3))), (15, .int (sc x c d)), (14, .int (nI M)), (0, .ref b0), (1, .ref (ad 0)), (2, .ref (ad 46)), (3, .int (nI 1)), (4, .int (nI T)), (5, .int (nI i)), (7, .int (nI Y)), (9, .int (nI n)), (10, .int (nI c)), (11, .int (nI d)), (12, .int (nI k)), (13, .int (nI w))]) hx hb dL_law_1099 hl (by decide) rfl (fun ls hl => ?_)
        refine lv_iload hx hb dL_law_1101 (lv_at hl 11 rfl) ?_
        refine lv_iload hx hb dL_law_1103 (lv_at hl 12 rfl) ?_
        refine r_cneN (a := c) (b := d) (tgt := 1123) hx hb (by omega) (by omega) dL_law_1105 (by decide) (fun _ => ?_) (fun h => absurd h hcd)
        refine lv_iload hx hb dL_law_1123 (lv_at hl 0 rfl) ?_
        refine lv_bipush (v := (-3)) hx hb dL_law_1125 (by decide) ?_
        refine lv_icmp_ne (tgt := 1147) hx hb dL_law_1127 (by decide) (fun h => absurd rfl h) (fun _ => ?_)
        refine lv_aload_n hx hb dL_law_1130 rfl (lv_at hl 4 rfl) ?_
        refine k_C (va_runV (As := []) (rest := []) hF (c_X3_pairs l D cI cA ad n xa (by omega)) (cwV 0 hts gL_law_X3_pairs rfl rfl rfl (by decide +kernel) ⟨(Nat.le_of_ble_eq_true rfl), (Nat.le_of_ble_eq_true rfl)⟩) (k_pre (sP_c hP) hK (sD_c hD) hT (k := 0) (by decide) cF_0 rfl) rfl rfl hl.1 rfl (lv_room (Nat.le_of_ble_eq_true rfl)) dL_law_1131 ⟨(by omega), (by omega)⟩) hD hP hS (fun H locs hP hS => ?_)
        refine r_topi (show (tlC xa n : Int32) = nI M from (hG.tl hxa).trans (by rw [eM])) ?_
        refine lv_iload hx hb dL_law_1134 (lv_at hl 2 rfl) ?_
        refine r_cneN (a := M) (b := M) (tgt := 1143) hx hb (by omega) (by omega) dL_law_1136 (by decide) (fun h => absurd rfl h) (fun _ => ?_)
        refine lv_iconst (v := nI 1) hx hb dL_law_1139 (by decide) ?_
        refine lv_goto (tgt := 1202) hx hb dL_law_1140 (by decide) ?_
        refine lv_istore_n (lv' := [(3, .int (nI 1)), (16, .int ((-3))), (15, .int (sc x c d)), (14, .int (nI M)), (0, .ref b0), (1, .ref (ad 0)), (2, .ref (ad 46)), (4, .int (nI T)), (5, .int (nI i)), (7, .int (nI Y)), (9, .int (nI n)), (10, .int (nI c)), (11, .int (nI d)), (12, .int (nI k)), (13, .int (nI w))]) hx hb dL_law_1202 rfl hl (by decide) rfl (fun ls hl => ?_)
        exact W.widen (k := cells + 2) (n := slots + 12) (by omega) (by omega) (kk K n (tlS xa n) sn H locs ls (by omega) (hGa.same (fun _ ha => tlS_o ha)) hP hS (lv_sub hl [4, 5, 6, 0, 7, 8, 9] rfl))
      · obtain ⟨w9, w0, w1, w2, w3⟩ := hG.sg_nz hc hd hsg
        have hsga : ¬ sg xa c d = 0 := by rw [sg_same hxa]; exact hsg
        rcases Bool.eq_false_or_eq_true g with hg | hg
        · subst hg
          have hGr : Gd K n (rfgX xa c d) := Gd_rfg hGa hc hd hcd
          have hoff : offP n xa (rfgX xa c d) c d := off_rfg (by omega) hc hd hcd
          have hcnt := hGa.off_cnt hGr hc hd hcd hsga hoff
          rw [Mp_same hxa, ← eM] at hcnt
          obtain ⟨xr, e_xr⟩ : ∃ xr, xr = rfgX xa c d := ⟨_, rfl⟩
          obtain ⟨Mr, eMr⟩ : ∃ Mr, Mr = Mp n (rfgX xa c d) := ⟨_, rfl⟩
          refine k_O (vx_runSW (As := [.ref (ad 0), .int (nI c), .int (nI d), .int (bI true)]) (rest := []) hF (w_downs_g l D cI cA ad n xa c d (by omega) (by omega) hcd (by omega) hsga) (vx_cwSW 4 hts gL_law_L_downs rfl rfl rfl (by decide +kernel) ⟨(Nat.le_of_ble_eq_true rfl), (Nat.le_of_ble_eq_true rfl)⟩) (w_pre hK hD hT hXF hC hP hS) rfl rfl hl.1 rfl (lv_room (Nat.le_of_ble_eq_true rfl)) dL_law_1096 ⟨(by omega), (by omega)⟩) hD hP hS (fun H locs hP hS => ?_)
          refine r_topi (show (tlC (rfgX xa c d) n : Int32) = nI Mr from (hGr.tl (fun _ _ => rfl)).trans (by rw [eMr])) ?_
          rw [← eMr] at hcnt
          rw [← e_xr] at hP hGr hoff eMr
          obtain ⟨xb, e_xb⟩ : ∃ xb, xb = tlS xr n := ⟨_, rfl⟩
          rw [← e_xb] at hP
          have hxb : ∀ a, a ≠ 12 → xb a = xr a := fun a ha => by rw [e_xb, tlS_o ha]
          refine lv_istore (lv' := [(16, .int (nI Mr)), (15, .int (sc x c d)), (14, .int (nI M)), (0, .ref b0), (1, .ref (ad 0)), (2, .ref (ad 46)), (3, .int (nI 1)), (4, .int (nI T)), (5, .int (nI i)), (7, .int (nI Y)), (9, .int (nI n)), (10, .int (nI c)), (11, .int (nI d)), (12, .int (nI k)), (13, .int (nI w))]) hx hb dL_law_1099 hl (by decide) rfl (fun ls hl => ?_)
          refine lv_iload hx hb dL_law_1101 (lv_at hl 11 rfl) ?_
          refine lv_iload hx hb dL_law_1103 (lv_at hl 12 rfl) ?_
          refine r_cneN (a := c) (b := d) (tgt := 1123) hx hb (by omega) (by omega) dL_law_1105 (by decide) (fun _ => ?_) (fun h => absurd h hcd)
          refine lv_iload hx hb dL_law_1123 (lv_at hl 0 rfl) ?_
          refine lv_bipush (v := (-3)) hx hb dL_law_1125 (by decide) ?_
          refine lv_icmp_ne (tgt := 1147) hx hb dL_law_1127 (by decide) (fun _ => ?_) (fun h => absurd h (nI_m3 (by omega)))
          refine lv_iload hx hb dL_law_1147 (lv_at hl 1 rfl) ?_
          refine r_topi (show (sc x c d : Int32) = nI w9 from w3) ?_
          refine r_ifleN (a := w9) (tgt := 1201) hx hb (by omega) dL_law_1149 (by decide) (fun h => absurd h (by omega)) (fun _ => ?_)
          refine lv_iload hx hb dL_law_1152 (lv_at hl 0 rfl) ?_
          refine lv_iload hx hb dL_law_1154 (lv_at hl 2 rfl) ?_
          refine lv_iconst (v := nI 1) hx hb dL_law_1156 (by decide) ?_
          refine lv_isub hx hb dL_law_1157 ?_
          refine r_topi (show ((nI M) - (nI 1) : Int32) = nI Mr from (pk_sub (by omega)).trans (congrArg nI (by omega))) ?_
          refine r_cneN (a := Mr) (b := Mr) (tgt := 1201) hx hb (by omega) (by omega) dL_law_1158 (by decide) (fun h => absurd rfl h) (fun _ => ?_)
          refine lv_aload_n hx hb dL_law_1161 rfl (lv_at hl 4 rfl) ?_
          refine k_C (va_runV (As := []) (rest := []) hF (c_X3_pairs l D cI cA ad n xb (by omega)) (cwV 0 hts gL_law_X3_pairs rfl rfl rfl (by decide +kernel) ⟨(Nat.le_of_ble_eq_true rfl), (Nat.le_of_ble_eq_true rfl)⟩) (k_pre (sP_c hP) hK (sD_c hD) hT (k := 0) (by decide) cF_0 rfl) rfl rfl hl.1 rfl (lv_room (Nat.le_of_ble_eq_true rfl)) dL_law_1162 ⟨(by omega), (by omega)⟩) hD hP hS (fun H locs hP hS => ?_)
          refine r_topi (show (tlC xb n : Int32) = nI Mr from (hGr.tl hxb).trans (by rw [eMr])) ?_
          obtain ⟨xc, e_xc⟩ : ∃ xc, xc = tlS xb n := ⟨_, rfl⟩
          rw [← e_xc] at hP
          have hxc : ∀ a, a ≠ 12 → xc a = xr a := fun a ha => by rw [e_xc, tlS_o ha]; exact hxb a ha
          refine lv_iload hx hb dL_law_1165 (lv_at hl 0 rfl) ?_
          refine r_cneN (a := Mr) (b := Mr) (tgt := 1201) hx hb (by omega) (by omega) dL_law_1167 (by decide) (fun h => absurd rfl h) (fun _ => ?_)
          refine lv_aload_n hx hb dL_law_1170 rfl (lv_at hl 4 rfl) ?_
          refine lv_iload hx hb dL_law_1171 (lv_at hl 11 rfl) ?_
          refine lv_iload hx hb dL_law_1173 (lv_at hl 12 rfl) ?_
          refine k_Ri (va_runV (As := [.int (nI c), .int (nI d)]) (rest := []) hF (c_X3_score l D cI cA ad n xc c d (by omega) (by omega) hcd (by omega)) (cwV 2 hts gL_law_X3_score rfl rfl rfl (by decide +kernel) ⟨(Nat.le_of_ble_eq_true rfl), (Nat.le_of_ble_eq_true rfl)⟩) (k_pre (sP_c hP) hK (sD_c hD) hT (k := 0) (by decide) cF_0 rfl) rfl rfl hl.1 rfl (lv_room (Nat.le_of_ble_eq_true rfl)) dL_law_1175 ⟨(by omega), (by omega)⟩) ?_
          refine r_topi (show (sc xc c d : Int32) = sc x c d from (sc_same hxc c d).trans ((hoff.2 c d).trans (sc_same hxa c d))) ?_
          refine lv_iload hx hb dL_law_1178 (lv_at hl 1 rfl) ?_
          refine lv_icmp_ne (tgt := 1201) hx hb dL_law_1180 (by decide) (fun h => absurd rfl h) (fun _ => ?_)
          refine lv_aload_n hx hb dL_law_1183 rfl (lv_at hl 4 rfl) ?_
          refine lv_iload hx hb dL_law_1184 (lv_at hl 12 rfl) ?_
          refine lv_iload hx hb dL_law_1186 (lv_at hl 11 rfl) ?_
          refine lv_iconst (v := nI 1) hx hb dL_law_1188 (by decide) ?_
          refine k_O (vx_runSW (As := [.ref (ad 0), .int (nI d), .int (nI c), .int (nI 1)]) (rest := []) hF (w_downs_Td l D cI cA ad n xc d c true hlt (by omega) (by omega) (Ne.symm hcd) (by omega) (by rw [sg_same hxc, hoff.1 d c hd hc, if_pos (Or.inr ⟨rfl, rfl⟩), nI_0])) (vx_cwSW 4 hts gL_law_L_downs rfl rfl rfl (by decide +kernel) ⟨(Nat.le_of_ble_eq_true rfl), (Nat.le_of_ble_eq_true rfl)⟩) (w_pre hK hD hT hXF hC hP hS) rfl rfl hl.1 rfl (lv_room (Nat.le_of_ble_eq_true rfl)) dL_law_1189 ⟨(by omega), (by omega)⟩) hD hP hS (fun H locs hP hS => ?_)
          refine lv_bipush (v := (-3)) hx hb dL_law_1192 (by decide) ?_
          refine lv_icmp_ne (tgt := 1201) hx hb dL_law_1194 (by decide) (fun h => absurd rfl h) (fun _ => ?_)
          refine lv_iconst (v := nI 1) hx hb dL_law_1197 (by decide) ?_
          refine lv_goto (tgt := 1202) hx hb dL_law_1198 (by decide) ?_
          refine lv_istore_n (lv' := [(3, .int (nI 1)), (16, .int (nI Mr)), (15, .int (sc x c d)), (14, .int (nI M)), (0, .ref b0), (1, .ref (ad 0)), (2, .ref (ad 46)), (4, .int (nI T)), (5, .int (nI i)), (7, .int (nI Y)), (9, .int (nI n)), (10, .int (nI c)), (11, .int (nI d)), (12, .int (nI k)), (13, .int (nI w))]) hx hb dL_law_1202 rfl hl (by decide) rfl (fun ls hl => ?_)
          exact W.widen (k := cells + 2) (n := slots + 12) (by omega) (by omega) (kk K n xc sn H locs ls (by omega) (hGr.same hxc) hP hS (lv_sub hl [4, 5, 6, 0, 7, 8, 9] rfl))
        · subst hg
          have hGr : Gd K n (rfnX xa c d (mcOf xa c d)) := Gd_rfn hGa hc hd hcd
          have hoff : offP n xa (rfnX xa c d (mcOf xa c d)) c d := off_rfn
          have hcnt := hGa.off_cnt hGr hc hd hcd hsga hoff
          rw [Mp_same hxa, ← eM] at hcnt
          obtain ⟨xr, e_xr⟩ : ∃ xr, xr = rfnX xa c d (mcOf xa c d) := ⟨_, rfl⟩
          obtain ⟨Mr, eMr⟩ : ∃ Mr, Mr = Mp n (rfnX xa c d (mcOf xa c d)) := ⟨_, rfl⟩
          refine k_O (vx_runSW (As := [.ref (ad 0), .int (nI c), .int (nI d), .int (bI false)]) (rest := []) hF (w_downs_n l D cI cA ad n xa c d (by omega) (by omega) hcd (by omega) hsga) (vx_cwSW 4 hts gL_law_L_downs rfl rfl rfl (by decide +kernel) ⟨(Nat.le_of_ble_eq_true rfl), (Nat.le_of_ble_eq_true rfl)⟩) (w_pre hK hD hT hXF hC hP hS) rfl rfl hl.1 rfl (lv_room (Nat.le_of_ble_eq_true rfl)) dL_law_1096 ⟨(by omega), (by omega)⟩) hD hP hS (fun H locs hP hS => ?_)
          refine r_topi (show (tlC (rfnX xa c d (mcOf xa c d)) n : Int32) = nI Mr from (hGr.tl (fun _ _ => rfl)).trans (by rw [eMr])) ?_
          rw [← eMr] at hcnt
          rw [← e_xr] at hP hGr hoff eMr
          obtain ⟨xb, e_xb⟩ : ∃ xb, xb = tlS xr n := ⟨_, rfl⟩
          rw [← e_xb] at hP
          have hxb : ∀ a, a ≠ 12 → xb a = xr a := fun a ha => by rw [e_xb, tlS_o ha]
          refine lv_istore (lv' := [(16, .int (nI Mr)), (15, .int (sc x c d)), (14, .int (nI M)), (0, .ref b0), (1, .ref (ad 0)), (2, .ref (ad 46)), (3, .int (nI 1)), (4, .int (nI T)), (5, .int (nI i)), (7, .int (nI Y)), (9, .int (nI n)), (10, .int (nI c)), (11, .int (nI d)), (12, .int (nI k)), (13, .int (nI w))]) hx hb dL_law_1099 hl (by decide) rfl (fun ls hl => ?_)
          refine lv_iload hx hb dL_law_1101 (lv_at hl 11 rfl) ?_
          refine lv_iload hx hb dL_law_1103 (lv_at hl 12 rfl) ?_
          refine r_cneN (a := c) (b := d) (tgt := 1123) hx hb (by omega) (by omega) dL_law_1105 (by decide) (fun _ => ?_) (fun h => absurd h hcd)
          refine lv_iload hx hb dL_law_1123 (lv_at hl 0 rfl) ?_
          refine lv_bipush (v := (-3)) hx hb dL_law_1125 (by decide) ?_
          refine lv_icmp_ne (tgt := 1147) hx hb dL_law_1127 (by decide) (fun _ => ?_) (fun h => absurd h (nI_m3 (by omega)))
          refine lv_iload hx hb dL_law_1147 (lv_at hl 1 rfl) ?_
          refine r_topi (show (sc x c d : Int32) = nI w9 from w3) ?_
          refine r_ifleN (a := w9) (tgt := 1201) hx hb (by omega) dL_law_1149 (by decide) (fun h => absurd h (by omega)) (fun _ => ?_)
          refine lv_iload hx hb dL_law_1152 (lv_at hl 0 rfl) ?_
          refine lv_iload hx hb dL_law_1154 (lv_at hl 2 rfl) ?_
          refine lv_iconst (v := nI 1) hx hb dL_law_1156 (by decide) ?_
          refine lv_isub hx hb dL_law_1157 ?_
          refine r_topi (show ((nI M) - (nI 1) : Int32) = nI Mr from (pk_sub (by omega)).trans (congrArg nI (by omega))) ?_
          refine r_cneN (a := Mr) (b := Mr) (tgt := 1201) hx hb (by omega) (by omega) dL_law_1158 (by decide) (fun h => absurd rfl h) (fun _ => ?_)
          refine lv_aload_n hx hb dL_law_1161 rfl (lv_at hl 4 rfl) ?_
          refine k_C (va_runV (As := []) (rest := []) hF (c_X3_pairs l D cI cA ad n xb (by omega)) (cwV 0 hts gL_law_X3_pairs rfl rfl rfl (by decide +kernel) ⟨(Nat.le_of_ble_eq_true rfl), (Nat.le_of_ble_eq_true rfl)⟩) (k_pre (sP_c hP) hK (sD_c hD) hT (k := 0) (by decide) cF_0 rfl) rfl rfl hl.1 rfl (lv_room (Nat.le_of_ble_eq_true rfl)) dL_law_1162 ⟨(by omega), (by omega)⟩) hD hP hS (fun H locs hP hS => ?_)
          refine r_topi (show (tlC xb n : Int32) = nI Mr from (hGr.tl hxb).trans (by rw [eMr])) ?_
          obtain ⟨xc, e_xc⟩ : ∃ xc, xc = tlS xb n := ⟨_, rfl⟩
          rw [← e_xc] at hP
          have hxc : ∀ a, a ≠ 12 → xc a = xr a := fun a ha => by rw [e_xc, tlS_o ha]; exact hxb a ha
          refine lv_iload hx hb dL_law_1165 (lv_at hl 0 rfl) ?_
          refine r_cneN (a := Mr) (b := Mr) (tgt := 1201) hx hb (by omega) (by omega) dL_law_1167 (by decide) (fun h => absurd rfl h) (fun _ => ?_)
          refine lv_aload_n hx hb dL_law_1170 rfl (lv_at hl 4 rfl) ?_
          refine lv_iload hx hb dL_law_1171 (lv_at hl 11 rfl) ?_
          refine lv_iload hx hb dL_law_1173 (lv_at hl 12 rfl) ?_
          refine k_Ri (va_runV (As := [.int (nI c), .int (nI d)]) (rest := []) hF (c_X3_score l D cI cA ad n xc c d (by omega) (by omega) hcd (by omega)) (cwV 2 hts gL_law_X3_score rfl rfl rfl (by decide +kernel) ⟨(Nat.le_of_ble_eq_true rfl), (Nat.le_of_ble_eq_true rfl)⟩) (k_pre (sP_c hP) hK (sD_c hD) hT (k := 0) (by decide) cF_0 rfl) rfl rfl hl.1 rfl (lv_room (Nat.le_of_ble_eq_true rfl)) dL_law_1175 ⟨(by omega), (by omega)⟩) ?_
          refine r_topi (show (sc xc c d : Int32) = sc x c d from (sc_same hxc c d).trans ((hoff.2 c d).trans (sc_same hxa c d))) ?_
          refine lv_iload hx hb dL_law_1178 (lv_at hl 1 rfl) ?_
          refine lv_icmp_ne (tgt := 1201) hx hb dL_law_1180 (by decide) (fun h => absurd rfl h) (fun _ => ?_)
          refine lv_aload_n hx hb dL_law_1183 rfl (lv_at hl 4 rfl) ?_
          refine lv_iload hx hb dL_law_1184 (lv_at hl 12 rfl) ?_
          refine lv_iload hx hb dL_law_1186 (lv_at hl 11 rfl) ?_
          refine lv_iconst (v := nI 1) hx hb dL_law_1188 (by decide) ?_
          refine k_O (vx_runSW (As := [.ref (ad 0), .int (nI d), .int (nI c), .int (nI 1)]) (rest := []) hF (w_downs_Td l D cI cA ad n xc d c true hlt (by omega) (by omega) (Ne.symm hcd) (by omega) (by rw [sg_same hxc, hoff.1 d c hd hc, if_pos (Or.inr ⟨rfl, rfl⟩), nI_0])) (vx_cwSW 4 hts gL_law_L_downs rfl rfl rfl (by decide +kernel) ⟨(Nat.le_of_ble_eq_true rfl), (Nat.le_of_ble_eq_true rfl)⟩) (w_pre hK hD hT hXF hC hP hS) rfl rfl hl.1 rfl (lv_room (Nat.le_of_ble_eq_true rfl)) dL_law_1189 ⟨(by omega), (by omega)⟩) hD hP hS (fun H locs hP hS => ?_)
          refine lv_bipush (v := (-3)) hx hb dL_law_1192 (by decide) ?_
          refine lv_icmp_ne (tgt := 1201) hx hb dL_law_1194 (by decide) (fun h => absurd rfl h) (fun _ => ?_)
          refine lv_iconst (v := nI 1) hx hb dL_law_1197 (by decide) ?_
          refine lv_goto (tgt := 1202) hx hb dL_law_1198 (by decide) ?_
          refine lv_istore_n (lv' := [(3, .int (nI 1)), (16, .int (nI Mr)), (15, .int (sc x c d)), (14, .int (nI M)), (0, .ref b0), (1, .ref (ad 0)), (2, .ref (ad 46)), (4, .int (nI T)), (5, .int (nI i)), (7, .int (nI Y)), (9, .int (nI n)), (10, .int (nI c)), (11, .int (nI d)), (12, .int (nI k)), (13, .int (nI w))]) hx hb dL_law_1202 rfl hl (by decide) rfl (fun ls hl => ?_)
          exact W.widen (k := cells + 2) (n := slots + 12) (by omega) (by omega) (kk K n xc sn H locs ls (by omega) (hGr.same hxc) hP hS (lv_sub hl [4, 5, 6, 0, 7, 8, 9] rfl))
    refine lv_aload_n hx hb dL_law_1076 rfl (lv_at hl 3 rfl) ?_
    refine lv_iload hx hb dL_law_1077 (lv_at hl 10 rfl) ?_
    refine lv_iload hx hb dL_law_1079 (lv_at hl 11 rfl) ?_
    refine lv_iload hx hb dL_law_1081 (lv_at hl 8 rfl) ?_
    refine lv_bipush (v := nI 14) hx hb dL_law_1083 (by decide) ?_
    refine r_shrN (a := Y) (k := 14) (r := Y / 16384) hx hb dL_law_1085 (by omega) (by decide +kernel) (by rfl) ?_
    refine lv_iconst (v := nI 3) hx hb dL_law_1086 (by decide) ?_
    refine lv_iand hx hb dL_law_1087 ?_
    refine r_topi (show ((nI ((Y / 16384))) &&& (nI 3) : Int32) = nI u from eu) ?_
    refine r_ifneN (a := u) (tgt := 1095) hx hb (by omega) dL_law_1088 (by decide) (fun _ => ?_) (fun _ => ?_)
    · refine lv_iconst (v := bI false) hx hb dL_law_1095 (by decide) ?_
      exact h1096 false ls hl
    · refine lv_iconst (v := bI true) hx hb dL_law_1091 (by decide) ?_
      refine lv_goto (tgt := 1096) hx hb dL_law_1092 (by decide) ?_
      exact h1096 true ls hl
