set_option maxHeartbeats 4000000 in
set_option maxRecDepth 100000 in
theorem deed_cut {p : Program} {l : Launch} {e : Env} {s : State} {m : MethodId} {below : List Frame} {meth : Method} {c9 : Code} {H : Heap} {locs : List Loc} {cells slots : Nat} {Q : State → Prop} {ls : Array Slot} {D : va_G} {b0 L : Nat} {xs : Nat → Int32} {cI cA : ClassId} {ad : Nat → Nat} {K n : Nat} {x : Nat → Nat → Int32} {sn : Nat → Int32} {i T Y c d k w : Nat} (C0 : lwC p l s m c9 b0 L xs D cI cA ad) (hG : Gd K n x) (hP : va_P D vwCl (wl ad (sF cI cA ad n x sn) 47) H) (hS : va_S (fun q => s.heap.size ≤ q) s.heap H locs) (hY : Y < 2 ^ 28) (hc : c < n) (hd : d < n) (hk : k < 2) (hw : w < 6) (hrc : cells + 2 ≤ room_1.cells) (hrs : slots + 12 ≤ room_1.slots) (hl : lv_has ls 19 [(0, .ref b0), (1, .ref (ad 0)), (2, .ref (ad 46)), (3, .int (nI 1)), (4, .int (nI T)), (5, .int (nI i)), (7, .int (nI Y)), (9, .int (nI n)), (10, .int (nI c)), (11, .int (nI d)), (12, .int (nI k)), (13, .int (nI w))]) (kk : ∀ (K' n' : Nat) (x' : Nat → Nat → Int32) (sn' : Nat → Int32) (H' : Heap) (locs' : List Loc) (ls' : Array Slot), 1 ≤ n' → Gd K' n' x' → va_P D vwCl (wl ad (sF cI cA ad n' x' sn') 47) H' → va_S (fun q => s.heap.size ≤ q) s.heap H' locs' → lv_has ls' 19 [(0, .ref b0), (1, .ref (ad 0)), (2, .ref (ad 46)), (3, .int (nI 1)), (4, .int (nI T)), (5, .int (nI i)), (7, .int (nI Y))] → W p l e room_1 s m #[Value.ref b0] below meth c9 H' locs' (cells + 2) (slots + 12) Q (F0 m 1203 ls' [])) : W p l e room_1 s m #[Value.ref b0] below meth c9 H locs cells slots Q (F0 m 788 ls []) := by
  obtain ⟨hx, hb, hF, hK, hD, hT, hXF, hC, hlt, hX, hbl, hL⟩ := C0
  have hown : s.vm.findClass RL = some m.cls := hF.2.2.2.1
  have hts := hF.2.2.2.2
  have hn := hG.n24
  rcases Bool.eq_false_or_eq_true (hasB (x 8 c) d) with hlk | hlk
  · have hcf := hG.cutF hc hd hlk
    rcases Bool.eq_false_or_eq_true (hasB (disX x c d 9 c) d) with hq | hq
    · refine lv_aload_n hx hb dL_law_788 rfl (lv_at hl 1 rfl) ?_
      refine k_Ri (va_runV (As := []) (rest := []) hF (c_X3_groups l D cI cA ad n x (by omega)) (cwV 0 hts gL_law_X3_groups rfl rfl rfl (by decide +kernel) ⟨(Nat.le_of_ble_eq_true rfl), (Nat.le_of_ble_eq_true rfl)⟩) (k_pre (sP_c hP) hK (sD_c hD) hT (k := 0) (by decide) cF_0 rfl) rfl rfl hl.1 rfl (lv_room (Nat.le_of_ble_eq_true rfl)) dL_law_789 ⟨(by omega), (by omega)⟩) ?_
      refine lv_istore (lv' := [(14, .int (cntF (fun i => lowB (x 9 i) i) n)), (0, .ref b0), (1, .ref (ad 0)), (2, .ref (ad 46)), (3, .int (nI 1)), (4, .int (nI T)), (5, .int (nI i)), (7, .int (nI Y)), (9, .int (nI n)), (10, .int (nI c)), (11, .int (nI d)), (12, .int (nI k)), (13, .int (nI w))]) hx hb dL_law_792 hl (by decide) rfl (fun ls hl => ?_)
      refine lv_aload_n hx hb dL_law_794 rfl (lv_at hl 2 rfl) ?_
      refine lv_iload hx hb dL_law_795 (lv_at hl 9 rfl) ?_
      refine k_Ri (va_runV (As := [.int (nI c)]) (rest := []) hF (c_X3_group l D cI cA ad n x c (by omega) (by omega)) (cwV 1 hts gL_law_X3_group rfl rfl rfl (by decide +kernel) ⟨(Nat.le_of_ble_eq_true rfl), (Nat.le_of_ble_eq_true rfl)⟩) (k_pre (sP_c hP) hK (sD_c hD) hT (k := 0) (by decide) cF_0 rfl) rfl rfl hl.1 rfl (lv_room (Nat.le_of_ble_eq_true rfl)) dL_law_797 ⟨(by omega), (by omega)⟩) ?_
      refine lv_istore (lv' := [(15, .int (x 9 c)), (14, .int (cntF (fun i => lowB (x 9 i) i) n)), (0, .ref b0), (1, .ref (ad 0)), (2, .ref (ad 46)), (3, .int (nI 1)), (4, .int (nI T)), (5, .int (nI i)), (7, .int (nI Y)), (9, .int (nI n)), (10, .int (nI c)), (11, .int (nI d)), (12, .int (nI k)), (13, .int (nI w))]) hx hb dL_law_800 hl (by decide) rfl (fun ls hl => ?_)
      refine lv_aload_n hx hb dL_law_802 rfl (lv_at hl 3 rfl) ?_
      refine lv_iload hx hb dL_law_803 (lv_at hl 10 rfl) ?_
      refine lv_iload hx hb dL_law_805 (lv_at hl 11 rfl) ?_
      refine k_O (vx_runSW (As := [.ref (ad 0), .int (nI c), .int (nI d)]) (rest := []) hF (w_cuts_0 l D cI cA ad n x c d (by omega) (by omega) (by omega) hlk) (vx_cwSW 3 hts gL_law_L_cuts rfl rfl rfl (by decide +kernel) ⟨(Nat.le_of_ble_eq_true rfl), (Nat.le_of_ble_eq_true rfl)⟩) (w_pre hK hD hT hXF hC hP hS) rfl rfl hl.1 rfl (lv_room (Nat.le_of_ble_eq_true rfl)) dL_law_807 ⟨(by omega), (by omega)⟩) hD hP hS (fun H locs hP hS => ?_)
      refine r_topi (show (bI (hasB (disX x c d 9 c) d) : Int32) = nI 1 from by rw [hq]; rfl) ?_
      obtain ⟨x1, e_x1⟩ : ∃ x1, x1 = disX x c d := ⟨_, rfl⟩
      rw [← e_x1] at hP
      have hf := hcf.1 hq
      rw [← e_x1] at hf
      refine lv_istore (lv' := [(16, .int (nI 1)), (15, .int (x 9 c)), (14, .int (cntF (fun i => lowB (x 9 i) i) n)), (0, .ref b0), (1, .ref (ad 0)), (2, .ref (ad 46)), (3, .int (nI 1)), (4, .int (nI T)), (5, .int (nI i)), (7, .int (nI Y)), (9, .int (nI n)), (10, .int (nI c)), (11, .int (nI d)), (12, .int (nI k)), (13, .int (nI w))]) hx hb dL_law_810 hl (by decide) rfl (fun ls hl => ?_)
      refine lv_iload hx hb dL_law_812 (lv_at hl 0 rfl) ?_
      refine lv_bipush (v := (-3)) hx hb dL_law_814 (by decide) ?_
      refine lv_icmp_ne (tgt := 836) hx hb dL_law_816 (by decide) (fun _ => ?_) (fun h => absurd h (nI_m3 (by decide)))
      refine lv_iload hx hb dL_law_836 (lv_at hl 0 rfl) ?_
      refine lv_iconst (v := nI 1) hx hb dL_law_838 (by decide) ?_
      refine r_cneN (a := 1) (b := 1) (tgt := 870) hx hb (by omega) (by omega) dL_law_839 (by decide) (fun h => absurd h (by decide)) (fun _ => ?_)
      refine lv_aload_n hx hb dL_law_842 rfl (lv_at hl 4 rfl) ?_
      refine k_Ri (va_runV (As := []) (rest := []) hF (c_X3_groups l D cI cA ad n x1 (by omega)) (cwV 0 hts gL_law_X3_groups rfl rfl rfl (by decide +kernel) ⟨(Nat.le_of_ble_eq_true rfl), (Nat.le_of_ble_eq_true rfl)⟩) (k_pre (sP_c hP) hK (sD_c hD) hT (k := 0) (by decide) cF_0 rfl) rfl rfl hl.1 rfl (lv_room (Nat.le_of_ble_eq_true rfl)) dL_law_843 ⟨(by omega), (by omega)⟩) ?_
      refine r_topi (show (cntF (fun i => lowB (x1 9 i) i) n : Int32) = cntF (fun i => lowB (x 9 i) i) n from hf.1) ?_
      refine lv_iload hx hb dL_law_846 (lv_at hl 2 rfl) ?_
      refine lv_icmp_ne (tgt := 866) hx hb dL_law_848 (by decide) (fun h => absurd rfl h) (fun _ => ?_)
      refine lv_aload_n hx hb dL_law_851 rfl (lv_at hl 4 rfl) ?_
      refine lv_iload hx hb dL_law_852 (lv_at hl 11 rfl) ?_
      refine k_Ri (va_runV (As := [.int (nI c)]) (rest := []) hF (c_X3_group l D cI cA ad n x1 c (by omega) (by omega)) (cwV 1 hts gL_law_X3_group rfl rfl rfl (by decide +kernel) ⟨(Nat.le_of_ble_eq_true rfl), (Nat.le_of_ble_eq_true rfl)⟩) (k_pre (sP_c hP) hK (sD_c hD) hT (k := 0) (by decide) cF_0 rfl) rfl rfl hl.1 rfl (lv_room (Nat.le_of_ble_eq_true rfl)) dL_law_854 ⟨(by omega), (by omega)⟩) ?_
      refine r_topi (show (x1 9 c : Int32) = x 9 c from hf.2) ?_
      refine lv_iload hx hb dL_law_857 (lv_at hl 1 rfl) ?_
      refine lv_icmp_ne (tgt := 866) hx hb dL_law_859 (by decide) (fun h => absurd rfl h) (fun _ => ?_)
      refine lv_iconst (v := nI 1) hx hb dL_law_862 (by decide) ?_
      refine lv_goto (tgt := 920) hx hb dL_law_863 (by decide) ?_
      refine lv_istore_n (lv' := [(3, .int (nI 1)), (16, .int (nI 1)), (15, .int (x 9 c)), (14, .int (cntF (fun i => lowB (x 9 i) i) n)), (0, .ref b0), (1, .ref (ad 0)), (2, .ref (ad 46)), (4, .int (nI T)), (5, .int (nI i)), (7, .int (nI Y)), (9, .int (nI n)), (10, .int (nI c)), (11, .int (nI d)), (12, .int (nI k)), (13, .int (nI w))]) hx hb dL_law_920 rfl hl (by decide) rfl (fun ls hl => ?_)
      refine lv_goto (tgt := 1203) hx hb dL_law_921 (by decide) ?_
      exact W.widen (k := cells + 2) (n := slots + 12) (by omega) (by omega) (kk K n x1 sn H locs ls (by omega) (by rw [e_x1]; exact Gd_cut hG hc hd) hP hS (lv_sub hl [4, 5, 6, 0, 7, 8, 9] rfl))
    · refine lv_aload_n hx hb dL_law_788 rfl (lv_at hl 1 rfl) ?_
      refine k_Ri (va_runV (As := []) (rest := []) hF (c_X3_groups l D cI cA ad n x (by omega)) (cwV 0 hts gL_law_X3_groups rfl rfl rfl (by decide +kernel) ⟨(Nat.le_of_ble_eq_true rfl), (Nat.le_of_ble_eq_true rfl)⟩) (k_pre (sP_c hP) hK (sD_c hD) hT (k := 0) (by decide) cF_0 rfl) rfl rfl hl.1 rfl (lv_room (Nat.le_of_ble_eq_true rfl)) dL_law_789 ⟨(by omega), (by omega)⟩) ?_
      refine lv_istore (lv' := [(14, .int (cntF (fun i => lowB (x 9 i) i) n)), (0, .ref b0), (1, .ref (ad 0)), (2, .ref (ad 46)), (3, .int (nI 1)), (4, .int (nI T)), (5, .int (nI i)), (7, .int (nI Y)), (9, .int (nI n)), (10, .int (nI c)), (11, .int (nI d)), (12, .int (nI k)), (13, .int (nI w))]) hx hb dL_law_792 hl (by decide) rfl (fun ls hl => ?_)
      refine lv_aload_n hx hb dL_law_794 rfl (lv_at hl 2 rfl) ?_
      refine lv_iload hx hb dL_law_795 (lv_at hl 9 rfl) ?_
      refine k_Ri (va_runV (As := [.int (nI c)]) (rest := []) hF (c_X3_group l D cI cA ad n x c (by omega) (by omega)) (cwV 1 hts gL_law_X3_group rfl rfl rfl (by decide +kernel) ⟨(Nat.le_of_ble_eq_true rfl), (Nat.le_of_ble_eq_true rfl)⟩) (k_pre (sP_c hP) hK (sD_c hD) hT (k := 0) (by decide) cF_0 rfl) rfl rfl hl.1 rfl (lv_room (Nat.le_of_ble_eq_true rfl)) dL_law_797 ⟨(by omega), (by omega)⟩) ?_
      refine lv_istore (lv' := [(15, .int (x 9 c)), (14, .int (cntF (fun i => lowB (x 9 i) i) n)), (0, .ref b0), (1, .ref (ad 0)), (2, .ref (ad 46)), (3, .int (nI 1)), (4, .int (nI T)), (5, .int (nI i)), (7, .int (nI Y)), (9, .int (nI n)), (10, .int (nI c)), (11, .int (nI d)), (12, .int (nI k)), (13, .int (nI w))]) hx hb dL_law_800 hl (by decide) rfl (fun ls hl => ?_)
      refine lv_aload_n hx hb dL_law_802 rfl (lv_at hl 3 rfl) ?_
      refine lv_iload hx hb dL_law_803 (lv_at hl 10 rfl) ?_
      refine lv_iload hx hb dL_law_805 (lv_at hl 11 rfl) ?_
      refine k_O (vx_runSW (As := [.ref (ad 0), .int (nI c), .int (nI d)]) (rest := []) hF (w_cuts_0 l D cI cA ad n x c d (by omega) (by omega) (by omega) hlk) (vx_cwSW 3 hts gL_law_L_cuts rfl rfl rfl (by decide +kernel) ⟨(Nat.le_of_ble_eq_true rfl), (Nat.le_of_ble_eq_true rfl)⟩) (w_pre hK hD hT hXF hC hP hS) rfl rfl hl.1 rfl (lv_room (Nat.le_of_ble_eq_true rfl)) dL_law_807 ⟨(by omega), (by omega)⟩) hD hP hS (fun H locs hP hS => ?_)
      refine r_topi (show (bI (hasB (disX x c d 9 c) d) : Int32) = nI 0 from by rw [hq]; rfl) ?_
      obtain ⟨x1, e_x1⟩ : ∃ x1, x1 = disX x c d := ⟨_, rfl⟩
      rw [← e_x1] at hP
      have hf := hcf.2 hq
      rw [← e_x1] at hf
      refine lv_istore (lv' := [(16, .int (nI 0)), (15, .int (x 9 c)), (14, .int (cntF (fun i => lowB (x 9 i) i) n)), (0, .ref b0), (1, .ref (ad 0)), (2, .ref (ad 46)), (3, .int (nI 1)), (4, .int (nI T)), (5, .int (nI i)), (7, .int (nI Y)), (9, .int (nI n)), (10, .int (nI c)), (11, .int (nI d)), (12, .int (nI k)), (13, .int (nI w))]) hx hb dL_law_810 hl (by decide) rfl (fun ls hl => ?_)
      refine lv_iload hx hb dL_law_812 (lv_at hl 0 rfl) ?_
      refine lv_bipush (v := (-3)) hx hb dL_law_814 (by decide) ?_
      refine lv_icmp_ne (tgt := 836) hx hb dL_law_816 (by decide) (fun _ => ?_) (fun h => absurd h (nI_m3 (by decide)))
      refine lv_iload hx hb dL_law_836 (lv_at hl 0 rfl) ?_
      refine lv_iconst (v := nI 1) hx hb dL_law_838 (by decide) ?_
      refine r_cneN (a := 0) (b := 1) (tgt := 870) hx hb (by omega) (by omega) dL_law_839 (by decide) (fun _ => ?_) (fun h => absurd h (by decide))
      refine lv_aload_n hx hb dL_law_870 rfl (lv_at hl 4 rfl) ?_
      refine k_Ri (va_runV (As := []) (rest := []) hF (c_X3_groups l D cI cA ad n x1 (by omega)) (cwV 0 hts gL_law_X3_groups rfl rfl rfl (by decide +kernel) ⟨(Nat.le_of_ble_eq_true rfl), (Nat.le_of_ble_eq_true rfl)⟩) (k_pre (sP_c hP) hK (sD_c hD) hT (k := 0) (by decide) cF_0 rfl) rfl rfl hl.1 rfl (lv_room (Nat.le_of_ble_eq_true rfl)) dL_law_871 ⟨(by omega), (by omega)⟩) ?_
      refine r_topi (show (cntF (fun i => lowB (x1 9 i) i) n : Int32) = (cntF (fun i => lowB (x 9 i) i) n) + (nI 1) from hf.1) ?_
      refine lv_iload hx hb dL_law_874 (lv_at hl 2 rfl) ?_
      refine lv_iconst (v := nI 1) hx hb dL_law_876 (by decide) ?_
      refine lv_iadd hx hb dL_law_877 ?_
      refine lv_icmp_ne (tgt := 919) hx hb dL_law_878 (by decide) (fun h => absurd rfl h) (fun _ => ?_)
      refine lv_aload_n hx hb dL_law_881 rfl (lv_at hl 4 rfl) ?_
      refine lv_iload hx hb dL_law_882 (lv_at hl 11 rfl) ?_
      refine k_Ri (va_runV (As := [.int (nI c)]) (rest := []) hF (c_X3_group l D cI cA ad n x1 c (by omega) (by omega)) (cwV 1 hts gL_law_X3_group rfl rfl rfl (by decide +kernel) ⟨(Nat.le_of_ble_eq_true rfl), (Nat.le_of_ble_eq_true rfl)⟩) (k_pre (sP_c hP) hK (sD_c hD) hT (k := 0) (by decide) cF_0 rfl) rfl rfl hl.1 rfl (lv_room (Nat.le_of_ble_eq_true rfl)) dL_law_884 ⟨(by omega), (by omega)⟩) ?_
      refine lv_aload_n hx hb dL_law_887 rfl (lv_at hl 4 rfl) ?_
      refine lv_iload hx hb dL_law_888 (lv_at hl 12 rfl) ?_
      refine k_Ri (va_runV (As := [.int (nI d)]) (rest := [.int (x1 9 c)]) hF (c_X3_group l D cI cA ad n x1 d (by omega) (by omega)) (cwV 1 hts gL_law_X3_group rfl rfl rfl (by decide +kernel) ⟨(Nat.le_of_ble_eq_true rfl), (Nat.le_of_ble_eq_true rfl)⟩) (k_pre (sP_c hP) hK (sD_c hD) hT (k := 0) (by decide) cF_0 rfl) rfl rfl hl.1 rfl (lv_room (Nat.le_of_ble_eq_true rfl)) dL_law_890 ⟨(by omega), (by omega)⟩) ?_
      refine lv_ior hx hb dL_law_893 ?_
      refine r_topi (show ((x1 9 c) ||| (x1 9 d) : Int32) = x 9 c from hf.2.1) ?_
      refine lv_iload hx hb dL_law_894 (lv_at hl 1 rfl) ?_
      refine lv_icmp_ne (tgt := 919) hx hb dL_law_896 (by decide) (fun h => absurd rfl h) (fun _ => ?_)
      refine lv_aload_n hx hb dL_law_899 rfl (lv_at hl 4 rfl) ?_
      refine lv_iload hx hb dL_law_900 (lv_at hl 11 rfl) ?_
      refine k_Ri (va_runV (As := [.int (nI c)]) (rest := []) hF (c_X3_group l D cI cA ad n x1 c (by omega) (by omega)) (cwV 1 hts gL_law_X3_group rfl rfl rfl (by decide +kernel) ⟨(Nat.le_of_ble_eq_true rfl), (Nat.le_of_ble_eq_true rfl)⟩) (k_pre (sP_c hP) hK (sD_c hD) hT (k := 0) (by decide) cF_0 rfl) rfl rfl hl.1 rfl (lv_room (Nat.le_of_ble_eq_true rfl)) dL_law_902 ⟨(by omega), (by omega)⟩) ?_
      refine lv_aload_n hx hb dL_law_905 rfl (lv_at hl 4 rfl) ?_
      refine lv_iload hx hb dL_law_906 (lv_at hl 12 rfl) ?_
      refine k_Ri (va_runV (As := [.int (nI d)]) (rest := [.int (x1 9 c)]) hF (c_X3_group l D cI cA ad n x1 d (by omega) (by omega)) (cwV 1 hts gL_law_X3_group rfl rfl rfl (by decide +kernel) ⟨(Nat.le_of_ble_eq_true rfl), (Nat.le_of_ble_eq_true rfl)⟩) (k_pre (sP_c hP) hK (sD_c hD) hT (k := 0) (by decide) cF_0 rfl) rfl rfl hl.1 rfl (lv_room (Nat.le_of_ble_eq_true rfl)) dL_law_908 ⟨(by omega), (by omega)⟩) ?_
      refine lv_iand hx hb dL_law_911 ?_
      refine r_topi (show ((x1 9 c) &&& (x1 9 d) : Int32) = nI 0 from hf.2.2.trans nI_0.symm) ?_
      refine r_ifneN (a := 0) (tgt := 919) hx hb (by omega) dL_law_912 (by decide) (fun h => absurd h (by decide)) (fun _ => ?_)
      refine lv_iconst (v := nI 1) hx hb dL_law_915 (by decide) ?_
      refine lv_goto (tgt := 920) hx hb dL_law_916 (by decide) ?_
      refine lv_istore_n (lv' := [(3, .int (nI 1)), (16, .int (nI 0)), (15, .int (x 9 c)), (14, .int (cntF (fun i => lowB (x 9 i) i) n)), (0, .ref b0), (1, .ref (ad 0)), (2, .ref (ad 46)), (4, .int (nI T)), (5, .int (nI i)), (7, .int (nI Y)), (9, .int (nI n)), (10, .int (nI c)), (11, .int (nI d)), (12, .int (nI k)), (13, .int (nI w))]) hx hb dL_law_920 rfl hl (by decide) rfl (fun ls hl => ?_)
      refine lv_goto (tgt := 1203) hx hb dL_law_921 (by decide) ?_
      exact W.widen (k := cells + 2) (n := slots + 12) (by omega) (by omega) (kk K n x1 sn H locs ls (by omega) (by rw [e_x1]; exact Gd_cut hG hc hd) hP hS (lv_sub hl [4, 5, 6, 0, 7, 8, 9] rfl))
  · refine lv_aload_n hx hb dL_law_788 rfl (lv_at hl 1 rfl) ?_
    refine k_Ri (va_runV (As := []) (rest := []) hF (c_X3_groups l D cI cA ad n x (by omega)) (cwV 0 hts gL_law_X3_groups rfl rfl rfl (by decide +kernel) ⟨(Nat.le_of_ble_eq_true rfl), (Nat.le_of_ble_eq_true rfl)⟩) (k_pre (sP_c hP) hK (sD_c hD) hT (k := 0) (by decide) cF_0 rfl) rfl rfl hl.1 rfl (lv_room (Nat.le_of_ble_eq_true rfl)) dL_law_789 ⟨(by omega), (by omega)⟩) ?_
    refine lv_istore (lv' := [(14, .int (cntF (fun i => lowB (x 9 i) i) n)), (0, .ref b0), (1, .ref (ad 0)), (2, .ref (ad 46)), (3, .int (nI 1)), (4, .int (nI T)), (5, .int (nI i)), (7, .int (nI Y)), (9, .int (nI n)), (10, .int (nI c)), (11, .int (nI d)), (12, .int (nI k)), (13, .int (nI w))]) hx hb dL_law_792 hl (by decide) rfl (fun ls hl => ?_)
    refine lv_aload_n hx hb dL_law_794 rfl (lv_at hl 2 rfl) ?_
    refine lv_iload hx hb dL_law_795 (lv_at hl 9 rfl) ?_
    refine k_Ri (va_runV (As := [.int (nI c)]) (rest := []) hF (c_X3_group l D cI cA ad n x c (by omega) (by omega)) (cwV 1 hts gL_law_X3_group rfl rfl rfl (by decide +kernel) ⟨(Nat.le_of_ble_eq_true rfl), (Nat.le_of_ble_eq_true rfl)⟩) (k_pre (sP_c hP) hK (sD_c hD) hT (k := 0) (by decide) cF_0 rfl) rfl rfl hl.1 rfl (lv_room (Nat.le_of_ble_eq_true rfl)) dL_law_797 ⟨(by omega), (by omega)⟩) ?_
    refine lv_istore (lv' := [(15, .int (x 9 c)), (14, .int (cntF (fun i => lowB (x 9 i) i) n)), (0, .ref b0), (1, .ref (ad 0)), (2, .ref (ad 46)), (3, .int (nI 1)), (4, .int (nI T)), (5, .int (nI i)), (7, .int (nI Y)), (9, .int (nI n)), (10, .int (nI c)), (11, .int (nI d)), (12, .int (nI k)), (13, .int (nI w))]) hx hb dL_law_800 hl (by decide) rfl (fun ls hl => ?_)
    refine lv_aload_n hx hb dL_law_802 rfl (lv_at hl 3 rfl) ?_
    refine lv_iload hx hb dL_law_803 (lv_at hl 10 rfl) ?_
    refine lv_iload hx hb dL_law_805 (lv_at hl 11 rfl) ?_
    refine k_O (vx_runSW (As := [.ref (ad 0), .int (nI c), .int (nI d)]) (rest := []) hF (w_cuts_Tc l D cI cA ad n x c d hlt (by omega) (by omega) (by omega) hlk) (vx_cwSW 3 hts gL_law_L_cuts rfl rfl rfl (by decide +kernel) ⟨(Nat.le_of_ble_eq_true rfl), (Nat.le_of_ble_eq_true rfl)⟩) (w_pre hK hD hT hXF hC hP hS) rfl rfl hl.1 rfl (lv_room (Nat.le_of_ble_eq_true rfl)) dL_law_807 ⟨(by omega), (by omega)⟩) hD hP hS (fun H locs hP hS => ?_)
    refine lv_istore (lv' := [(16, .int ((-3))), (15, .int (x 9 c)), (14, .int (cntF (fun i => lowB (x 9 i) i) n)), (0, .ref b0), (1, .ref (ad 0)), (2, .ref (ad 46)), (3, .int (nI 1)), (4, .int (nI T)), (5, .int (nI i)), (7, .int (nI Y)), (9, .int (nI n)), (10, .int (nI c)), (11, .int (nI d)), (12, .int (nI k)), (13, .int (nI w))]) hx hb dL_law_810 hl (by decide) rfl (fun ls hl => ?_)
    refine lv_iload hx hb dL_law_812 (lv_at hl 0 rfl) ?_
    refine lv_bipush (v := (-3)) hx hb dL_law_814 (by decide) ?_
    refine lv_icmp_ne (tgt := 836) hx hb dL_law_816 (by decide) (fun h => absurd rfl h) (fun _ => ?_)
    refine lv_aload_n hx hb dL_law_819 rfl (lv_at hl 4 rfl) ?_
    refine k_Ri (va_runV (As := []) (rest := []) hF (c_X3_groups l D cI cA ad n x (by omega)) (cwV 0 hts gL_law_X3_groups rfl rfl rfl (by decide +kernel) ⟨(Nat.le_of_ble_eq_true rfl), (Nat.le_of_ble_eq_true rfl)⟩) (k_pre (sP_c hP) hK (sD_c hD) hT (k := 0) (by decide) cF_0 rfl) rfl rfl hl.1 rfl (lv_room (Nat.le_of_ble_eq_true rfl)) dL_law_820 ⟨(by omega), (by omega)⟩) ?_
    refine lv_iload hx hb dL_law_823 (lv_at hl 2 rfl) ?_
    refine lv_icmp_ne (tgt := 832) hx hb dL_law_825 (by decide) (fun h => absurd rfl h) (fun _ => ?_)
    refine lv_iconst (v := nI 1) hx hb dL_law_828 (by decide) ?_
    refine lv_goto (tgt := 920) hx hb dL_law_829 (by decide) ?_
    refine lv_istore_n (lv' := [(3, .int (nI 1)), (16, .int ((-3))), (15, .int (x 9 c)), (14, .int (cntF (fun i => lowB (x 9 i) i) n)), (0, .ref b0), (1, .ref (ad 0)), (2, .ref (ad 46)), (4, .int (nI T)), (5, .int (nI i)), (7, .int (nI Y)), (9, .int (nI n)), (10, .int (nI c)), (11, .int (nI d)), (12, .int (nI k)), (13, .int (nI w))]) hx hb dL_law_920 rfl hl (by decide) rfl (fun ls hl => ?_)
    refine lv_goto (tgt := 1203) hx hb dL_law_921 (by decide) ?_
    exact W.widen (k := cells + 2) (n := slots + 12) (by omega) (by omega) (kk K n x sn H locs ls (by omega) hG hP hS (lv_sub hl [4, 5, 6, 0, 7, 8, 9] rfl))
set_option maxHeartbeats 4000000 in
set_option maxRecDepth 100000 in
theorem deed_edit {p : Program} {l : Launch} {e : Env} {s : State} {m : MethodId} {below : List Frame} {meth : Method} {c9 : Code} {H : Heap} {locs : List Loc} {cells slots : Nat} {Q : State → Prop} {ls : Array Slot} {D : va_G} {b0 L : Nat} {xs : Nat → Int32} {cI cA : ClassId} {ad : Nat → Nat} {K n : Nat} {x : Nat → Nat → Int32} {sn : Nat → Int32} {i T Y c d k w : Nat} (C0 : lwC p l s m c9 b0 L xs D cI cA ad) (hG : Gd K n x) (hP : va_P D vwCl (wl ad (sF cI cA ad n x sn) 47) H) (hS : va_S (fun q => s.heap.size ≤ q) s.heap H locs) (hY : Y < 2 ^ 28) (hc : c < n) (hd : d < n) (hk : k < 2) (hw : w < 6) (hrc : cells + 2 ≤ room_1.cells) (hrs : slots + 12 ≤ room_1.slots) (hl : lv_has ls 19 [(0, .ref b0), (1, .ref (ad 0)), (2, .ref (ad 46)), (3, .int (nI 1)), (4, .int (nI T)), (5, .int (nI i)), (7, .int (nI Y)), (9, .int (nI n)), (10, .int (nI c)), (11, .int (nI d)), (12, .int (nI k)), (13, .int (nI w))]) (kk : ∀ (K' n' : Nat) (x' : Nat → Nat → Int32) (sn' : Nat → Int32) (H' : Heap) (locs' : List Loc) (ls' : Array Slot), 1 ≤ n' → Gd K' n' x' → va_P D vwCl (wl ad (sF cI cA ad n' x' sn') 47) H' → va_S (fun q => s.heap.size ≤ q) s.heap H' locs' → lv_has ls' 19 [(0, .ref b0), (1, .ref (ad 0)), (2, .ref (ad 46)), (3, .int (nI 1)), (4, .int (nI T)), (5, .int (nI i)), (7, .int (nI Y))] → W p l e room_1 s m #[Value.ref b0] below meth c9 H' locs' (cells + 2) (slots + 12) Q (F0 m 1203 ls' [])) : W p l e room_1 s m #[Value.ref b0] below meth c9 H locs cells slots Q (F0 m 931 ls []) := by
  obtain ⟨hx, hb, hF, hK, hD, hT, hXF, hC, hlt, hX, hbl, hL⟩ := C0
  have hown : s.vm.findClass RL = some m.cls := hF.2.2.2.1
  have hts := hF.2.2.2.2
  have hn := hG.n24
  rcases Bool.eq_false_or_eq_true (hasB (orF (x 9 c) (x (k + 16)) n) w) with hq | hq
  · have hf := hG.tk (k := k) (show w < 32 by omega) hq
    refine lv_aload_n hx hb dL_law_931 rfl (lv_at hl 1 rfl) ?_
    refine lv_iload hx hb dL_law_932 (lv_at hl 8 rfl) ?_
    refine lv_iload hx hb dL_law_934 (lv_at hl 10 rfl) ?_
    refine k_Ri (va_runV (As := [.int (nI c), .int (nI k)]) (rest := []) hF (c_X3_shown l D cI cA ad n x c k (by omega) (by omega) (by omega)) (cwV 2 hts gL_law_X3_shown rfl rfl rfl (by decide +kernel) ⟨(Nat.le_of_ble_eq_true rfl), (Nat.le_of_ble_eq_true rfl)⟩) (k_pre (sP_c hP) hK (sD_c hD) hT (k := 0) (by decide) cF_0 rfl) rfl rfl hl.1 rfl (lv_room (Nat.le_of_ble_eq_true rfl)) dL_law_936 ⟨(by omega), (by omega)⟩) ?_
    refine lv_iload hx hb dL_law_939 (lv_at hl 11 rfl) ?_
    refine lv_ishr hx hb dL_law_941 ?_
    refine lv_iconst (v := nI 1) hx hb dL_law_942 (by decide) ?_
    refine lv_iand hx hb dL_law_943 ?_
    refine r_topi (show (((orF (x 9 c) (x (k + 16)) n) >>> ((nI w) &&& 31)) &&& (nI 1) : Int32) = nI 1 from (shb (by omega)).trans (by rw [hq]; rfl)) ?_
    refine lv_iconst (v := nI 1) hx hb dL_law_944 (by decide) ?_
    refine r_cneN (a := 1) (b := 1) (tgt := 952) hx hb (by omega) (by omega) dL_law_945 (by decide) (fun h => absurd h (by decide)) (fun _ => ?_)
    refine lv_iconst (v := nI 1) hx hb dL_law_948 (by decide) ?_
    refine lv_goto (tgt := 953) hx hb dL_law_949 (by decide) ?_
    refine lv_istore (lv' := [(14, .int (nI 1)), (0, .ref b0), (1, .ref (ad 0)), (2, .ref (ad 46)), (3, .int (nI 1)), (4, .int (nI T)), (5, .int (nI i)), (7, .int (nI Y)), (9, .int (nI n)), (10, .int (nI c)), (11, .int (nI d)), (12, .int (nI k)), (13, .int (nI w))]) hx hb dL_law_953 hl (by decide) rfl (fun ls hl => ?_)
    refine lv_aload_n hx hb dL_law_955 rfl (lv_at hl 2 rfl) ?_
    refine lv_iload hx hb dL_law_956 (lv_at hl 9 rfl) ?_
    refine lv_iload hx hb dL_law_958 (lv_at hl 11 rfl) ?_
    refine k_Ri (va_runV (As := [.int (nI c), .int (nI k)]) (rest := []) hF (c_X3_shown l D cI cA ad n x c k (by omega) (by omega) (by omega)) (cwV 2 hts gL_law_X3_shown rfl rfl rfl (by decide +kernel) ⟨(Nat.le_of_ble_eq_true rfl), (Nat.le_of_ble_eq_true rfl)⟩) (k_pre (sP_c hP) hK (sD_c hD) hT (k := 0) (by decide) cF_0 rfl) rfl rfl hl.1 rfl (lv_room (Nat.le_of_ble_eq_true rfl)) dL_law_960 ⟨(by omega), (by omega)⟩) ?_
    refine lv_istore (lv' := [(15, .int (orF (x 9 c) (x (k + 16)) n)), (14, .int (nI 1)), (0, .ref b0), (1, .ref (ad 0)), (2, .ref (ad 46)), (3, .int (nI 1)), (4, .int (nI T)), (5, .int (nI i)), (7, .int (nI Y)), (9, .int (nI n)), (10, .int (nI c)), (11, .int (nI d)), (12, .int (nI k)), (13, .int (nI w))]) hx hb dL_law_963 hl (by decide) rfl (fun ls hl => ?_)
    refine lv_aload_n hx hb dL_law_965 rfl (lv_at hl 3 rfl) ?_
    refine lv_iload hx hb dL_law_966 (lv_at hl 10 rfl) ?_
    refine k_Ri (va_runV (As := [.int (nI c)]) (rest := []) hF (c_X3_group l D cI cA ad n x c (by omega) (by omega)) (cwV 1 hts gL_law_X3_group rfl rfl rfl (by decide +kernel) ⟨(Nat.le_of_ble_eq_true rfl), (Nat.le_of_ble_eq_true rfl)⟩) (k_pre (sP_c hP) hK (sD_c hD) hT (k := 0) (by decide) cF_0 rfl) rfl rfl hl.1 rfl (lv_room (Nat.le_of_ble_eq_true rfl)) dL_law_968 ⟨(by omega), (by omega)⟩) ?_
    refine lv_istore (lv' := [(16, .int (x 9 c)), (15, .int (orF (x 9 c) (x (k + 16)) n)), (14, .int (nI 1)), (0, .ref b0), (1, .ref (ad 0)), (2, .ref (ad 46)), (3, .int (nI 1)), (4, .int (nI T)), (5, .int (nI i)), (7, .int (nI Y)), (9, .int (nI n)), (10, .int (nI c)), (11, .int (nI d)), (12, .int (nI k)), (13, .int (nI w))]) hx hb dL_law_971 hl (by decide) rfl (fun ls hl => ?_)
    refine lv_aload_n hx hb dL_law_973 rfl (lv_at hl 4 rfl) ?_
    refine lv_iload hx hb dL_law_974 (lv_at hl 11 rfl) ?_
    refine k_Ri (va_runV (As := [.int (nI c)]) (rest := []) hF (c_X3_preferred l D cI cA ad n x c (by omega) (by omega)) (cwV 1 hts gL_law_X3_preferred rfl rfl rfl (by decide +kernel) ⟨(Nat.le_of_ble_eq_true rfl), (Nat.le_of_ble_eq_true rfl)⟩) (k_pre (sP_c hP) hK (sD_c hD) hT (k := 0) (by decide) cF_0 rfl) rfl rfl hl.1 rfl (lv_room (Nat.le_of_ble_eq_true rfl)) dL_law_976 ⟨(by omega), (by omega)⟩) ?_
    refine lv_istore (lv' := [(17, .int (nI (prefF (x 4) (x 9 c) c n))), (16, .int (x 9 c)), (15, .int (orF (x 9 c) (x (k + 16)) n)), (14, .int (nI 1)), (0, .ref b0), (1, .ref (ad 0)), (2, .ref (ad 46)), (3, .int (nI 1)), (4, .int (nI T)), (5, .int (nI i)), (7, .int (nI Y)), (9, .int (nI n)), (10, .int (nI c)), (11, .int (nI d)), (12, .int (nI k)), (13, .int (nI w))]) hx hb dL_law_979 hl (by decide) rfl (fun ls hl => ?_)
    refine lv_aload_n hx hb dL_law_981 rfl (lv_at hl 5 rfl) ?_
    refine lv_iload hx hb dL_law_982 (lv_at hl 12 rfl) ?_
    refine lv_iload hx hb dL_law_984 (lv_at hl 14 rfl) ?_
    refine lv_iload hx hb dL_law_986 (lv_at hl 15 rfl) ?_
    refine k_C (va_runV (As := [.int (nI c), .int (nI k), .int (nI w)]) (rest := []) hF (c_X3_edit_a l D cI cA ad n x c k w (by omega) (by omega) (by omega) (by omega) hq) (cwV 3 hts gL_law_X3_edit rfl rfl rfl (by decide +kernel) ⟨(Nat.le_of_ble_eq_true rfl), (Nat.le_of_ble_eq_true rfl)⟩) (k_pre (sP_c hP) hK (sD_c hD) hT (k := 0) (by decide) cF_0 rfl) rfl rfl hl.1 rfl (lv_room (Nat.le_of_ble_eq_true rfl)) dL_law_988 ⟨(by omega), (by omega)⟩) hD hP hS (fun H locs hP hS => ?_)
    obtain ⟨x1, e_x1⟩ : ∃ x1, x1 = tkS x (x 9 c) k w n := ⟨_, rfl⟩
    rw [← e_x1] at hP
    refine lv_istore (lv' := [(18, .int (tkC x (x 9 c) k w n)), (17, .int (nI (prefF (x 4) (x 9 c) c n))), (16, .int (x 9 c)), (15, .int (orF (x 9 c) (x (k + 16)) n)), (14, .int (nI 1)), (0, .ref b0), (1, .ref (ad 0)), (2, .ref (ad 46)), (3, .int (nI 1)), (4, .int (nI T)), (5, .int (nI i)), (7, .int (nI Y)), (9, .int (nI n)), (10, .int (nI c)), (11, .int (nI d)), (12, .int (nI k)), (13, .int (nI w))]) hx hb dL_law_991 hl (by decide) rfl (fun ls hl => ?_)
    refine lv_aload_n hx hb dL_law_993 rfl (lv_at hl 6 rfl) ?_
    refine lv_iload hx hb dL_law_994 (lv_at hl 13 rfl) ?_
    refine lv_iload hx hb dL_law_996 (lv_at hl 15 rfl) ?_
    refine k_Ri (va_runV (As := [.int (nI c), .int (nI k)]) (rest := []) hF (c_X3_shown l D cI cA ad n x1 c k (by omega) (by omega) (by omega)) (cwV 2 hts gL_law_X3_shown rfl rfl rfl (by decide +kernel) ⟨(Nat.le_of_ble_eq_true rfl), (Nat.le_of_ble_eq_true rfl)⟩) (k_pre (sP_c hP) hK (sD_c hD) hT (k := 0) (by decide) cF_0 rfl) rfl rfl hl.1 rfl (lv_room (Nat.le_of_ble_eq_true rfl)) dL_law_998 ⟨(by omega), (by omega)⟩) ?_
    refine r_topi (show (orF (x1 9 c) (x1 (k + 16)) n : Int32) = (orF (x 9 c) (x (k + 16)) n) ^^^ (bit w) from by rw [e_x1, tk_9 (a := 9) (by decide) (by omega)]; exact tk_or (by omega) hq) ?_
    refine lv_iload hx hb dL_law_1001 (lv_at hl 3 rfl) ?_
    refine lv_iconst (v := nI 1) hx hb dL_law_1003 (by decide) ?_
    refine lv_iload hx hb dL_law_1004 (lv_at hl 16 rfl) ?_
    refine r_bit hx hb dL_law_1006 ?_
    refine lv_ixor hx hb dL_law_1007 ?_
    refine lv_icmp_ne (tgt := 1044) hx hb dL_law_1008 (by decide) (fun h => absurd rfl h) (fun _ => ?_)
    refine lv_iload hx hb dL_law_1011 (lv_at hl 0 rfl) ?_
    refine lv_if_eq (tgt := 1044) hx hb dL_law_1013 (by decide) (fun h => absurd h hf.1) (fun _ => ?_)
    refine lv_iload hx hb dL_law_1016 (lv_at hl 0 rfl) ?_
    refine lv_iload hx hb dL_law_1018 (lv_at hl 2 rfl) ?_
    refine lv_iconst (v := (-1)) hx hb dL_law_1020 (by decide) ?_
    refine lv_ixor hx hb dL_law_1021 ?_
    refine lv_iand hx hb dL_law_1022 ?_
    refine lv_if_ne (tgt := 1044) hx hb dL_law_1023 (by decide) (fun h => absurd hf.2 h) (fun _ => ?_)
    refine lv_iload hx hb dL_law_1026 (lv_at hl 4 rfl) ?_
    refine r_ifneN (a := 1) (tgt := 1040) hx hb (by omega) dL_law_1028 (by decide) (fun _ => ?_) (fun h => absurd h (by decide))
    refine lv_iconst (v := nI 1) hx hb dL_law_1040 (by decide) ?_
    refine lv_goto (tgt := 1045) hx hb dL_law_1041 (by decide) ?_
    refine lv_istore_n (lv' := [(3, .int (nI 1)), (18, .int (tkC x (x 9 c) k w n)), (17, .int (nI (prefF (x 4) (x 9 c) c n))), (16, .int (x 9 c)), (15, .int (orF (x 9 c) (x (k + 16)) n)), (14, .int (nI 1)), (0, .ref b0), (1, .ref (ad 0)), (2, .ref (ad 46)), (4, .int (nI T)), (5, .int (nI i)), (7, .int (nI Y)), (9, .int (nI n)), (10, .int (nI c)), (11, .int (nI d)), (12, .int (nI k)), (13, .int (nI w))]) hx hb dL_law_1045 rfl hl (by decide) rfl (fun ls hl => ?_)
    refine lv_goto (tgt := 1203) hx hb dL_law_1046 (by decide) ?_
    exact W.widen (k := cells + 2) (n := slots + 12) (by omega) (by omega) (kk (K + n) n x1 sn H locs ls (by omega) (by rw [e_x1]; exact Gd_tk hG hk) hP hS (lv_sub hl [6, 7, 8, 0, 9, 10, 11] rfl))
  · have hf := hG.ed (k := k) hc (show w < 32 by omega) hq
    have hbs := (hG.best hc).1
    refine lv_aload_n hx hb dL_law_931 rfl (lv_at hl 1 rfl) ?_
    refine lv_iload hx hb dL_law_932 (lv_at hl 8 rfl) ?_
    refine lv_iload hx hb dL_law_934 (lv_at hl 10 rfl) ?_
    refine k_Ri (va_runV (As := [.int (nI c), .int (nI k)]) (rest := []) hF (c_X3_shown l D cI cA ad n x c k (by omega) (by omega) (by omega)) (cwV 2 hts gL_law_X3_shown rfl rfl rfl (by decide +kernel) ⟨(Nat.le_of_ble_eq_true rfl), (Nat.le_of_ble_eq_true rfl)⟩) (k_pre (sP_c hP) hK (sD_c hD) hT (k := 0) (by decide) cF_0 rfl) rfl rfl hl.1 rfl (lv_room (Nat.le_of_ble_eq_true rfl)) dL_law_936 ⟨(by omega), (by omega)⟩) ?_
    refine lv_iload hx hb dL_law_939 (lv_at hl 11 rfl) ?_
    refine lv_ishr hx hb dL_law_941 ?_
    refine lv_iconst (v := nI 1) hx hb dL_law_942 (by decide) ?_
    refine lv_iand hx hb dL_law_943 ?_
    refine r_topi (show (((orF (x 9 c) (x (k + 16)) n) >>> ((nI w) &&& 31)) &&& (nI 1) : Int32) = nI 0 from (shb (by omega)).trans (by rw [hq]; rfl)) ?_
    refine lv_iconst (v := nI 1) hx hb dL_law_944 (by decide) ?_
    refine r_cneN (a := 0) (b := 1) (tgt := 952) hx hb (by omega) (by omega) dL_law_945 (by decide) (fun _ => ?_) (fun h => absurd h (by decide))
    refine lv_iconst (v := nI 0) hx hb dL_law_952 (by decide) ?_
    refine lv_istore (lv' := [(14, .int (nI 0)), (0, .ref b0), (1, .ref (ad 0)), (2, .ref (ad 46)), (3, .int (nI 1)), (4, .int (nI T)), (5, .int (nI i)), (7, .int (nI Y)), (9, .int (nI n)), (10, .int (nI c)), (11, .int (nI d)), (12, .int (nI k)), (13, .int (nI w))]) hx hb dL_law_953 hl (by decide) rfl (fun ls hl => ?_)
    refine lv_aload_n hx hb dL_law_955 rfl (lv_at hl 2 rfl) ?_
    refine lv_iload hx hb dL_law_956 (lv_at hl 9 rfl) ?_
    refine lv_iload hx hb dL_law_958 (lv_at hl 11 rfl) ?_
    refine k_Ri (va_runV (As := [.int (nI c), .int (nI k)]) (rest := []) hF (c_X3_shown l D cI cA ad n x c k (by omega) (by omega) (by omega)) (cwV 2 hts gL_law_X3_shown rfl rfl rfl (by decide +kernel) ⟨(Nat.le_of_ble_eq_true rfl), (Nat.le_of_ble_eq_true rfl)⟩) (k_pre (sP_c hP) hK (sD_c hD) hT (k := 0) (by decide) cF_0 rfl) rfl rfl hl.1 rfl (lv_room (Nat.le_of_ble_eq_true rfl)) dL_law_960 ⟨(by omega), (by omega)⟩) ?_
    refine lv_istore (lv' := [(15, .int (orF (x 9 c) (x (k + 16)) n)), (14, .int (nI 0)), (0, .ref b0), (1, .ref (ad 0)), (2, .ref (ad 46)), (3, .int (nI 1)), (4, .int (nI T)), (5, .int (nI i)), (7, .int (nI Y)), (9, .int (nI n)), (10, .int (nI c)), (11, .int (nI d)), (12, .int (nI k)), (13, .int (nI w))]) hx hb dL_law_963 hl (by decide) rfl (fun ls hl => ?_)
    refine lv_aload_n hx hb dL_law_965 rfl (lv_at hl 3 rfl) ?_
    refine lv_iload hx hb dL_law_966 (lv_at hl 10 rfl) ?_
    refine k_Ri (va_runV (As := [.int (nI c)]) (rest := []) hF (c_X3_group l D cI cA ad n x c (by omega) (by omega)) (cwV 1 hts gL_law_X3_group rfl rfl rfl (by decide +kernel) ⟨(Nat.le_of_ble_eq_true rfl), (Nat.le_of_ble_eq_true rfl)⟩) (k_pre (sP_c hP) hK (sD_c hD) hT (k := 0) (by decide) cF_0 rfl) rfl rfl hl.1 rfl (lv_room (Nat.le_of_ble_eq_true rfl)) dL_law_968 ⟨(by omega), (by omega)⟩) ?_
    refine lv_istore (lv' := [(16, .int (x 9 c)), (15, .int (orF (x 9 c) (x (k + 16)) n)), (14, .int (nI 0)), (0, .ref b0), (1, .ref (ad 0)), (2, .ref (ad 46)), (3, .int (nI 1)), (4, .int (nI T)), (5, .int (nI i)), (7, .int (nI Y)), (9, .int (nI n)), (10, .int (nI c)), (11, .int (nI d)), (12, .int (nI k)), (13, .int (nI w))]) hx hb dL_law_971 hl (by decide) rfl (fun ls hl => ?_)
    refine lv_aload_n hx hb dL_law_973 rfl (lv_at hl 4 rfl) ?_
    refine lv_iload hx hb dL_law_974 (lv_at hl 11 rfl) ?_
    refine k_Ri (va_runV (As := [.int (nI c)]) (rest := []) hF (c_X3_preferred l D cI cA ad n x c (by omega) (by omega)) (cwV 1 hts gL_law_X3_preferred rfl rfl rfl (by decide +kernel) ⟨(Nat.le_of_ble_eq_true rfl), (Nat.le_of_ble_eq_true rfl)⟩) (k_pre (sP_c hP) hK (sD_c hD) hT (k := 0) (by decide) cF_0 rfl) rfl rfl hl.1 rfl (lv_room (Nat.le_of_ble_eq_true rfl)) dL_law_976 ⟨(by omega), (by omega)⟩) ?_
    refine lv_istore (lv' := [(17, .int (nI (prefF (x 4) (x 9 c) c n))), (16, .int (x 9 c)), (15, .int (orF (x 9 c) (x (k + 16)) n)), (14, .int (nI 0)), (0, .ref b0), (1, .ref (ad 0)), (2, .ref (ad 46)), (3, .int (nI 1)), (4, .int (nI T)), (5, .int (nI i)), (7, .int (nI Y)), (9, .int (nI n)), (10, .int (nI c)), (11, .int (nI d)), (12, .int (nI k)), (13, .int (nI w))]) hx hb dL_law_979 hl (by decide) rfl (fun ls hl => ?_)
    refine lv_aload_n hx hb dL_law_981 rfl (lv_at hl 5 rfl) ?_
    refine lv_iload hx hb dL_law_982 (lv_at hl 12 rfl) ?_
    refine lv_iload hx hb dL_law_984 (lv_at hl 14 rfl) ?_
    refine lv_iload hx hb dL_law_986 (lv_at hl 15 rfl) ?_
    refine k_C (va_runV (As := [.int (nI c), .int (nI k), .int (nI w)]) (rest := []) hF (c_X3_edit_b l D cI cA ad n x c k w (by omega) (by omega) (by omega) (by omega) hq) (cwV 3 hts gL_law_X3_edit rfl rfl rfl (by decide +kernel) ⟨(Nat.le_of_ble_eq_true rfl), (Nat.le_of_ble_eq_true rfl)⟩) (k_pre (sP_c hP) hK (sD_c hD) hT (k := 0) (by decide) cF_0 rfl) rfl rfl hl.1 rfl (lv_room (Nat.le_of_ble_eq_true rfl)) dL_law_988 ⟨(by omega), (by omega)⟩) hD hP hS (fun H locs hP hS => ?_)
    obtain ⟨x1, e_x1⟩ : ∃ x1, x1 = putS x (prefF (x 4) (x 9 c) c n) 0 k (x (k + 16) (prefF (x 4) (x 9 c) c n) ||| bit w) := ⟨_, rfl⟩
    rw [← e_x1] at hP
    refine lv_istore (lv' := [(18, .int (bit (prefF (x 4) (x 9 c) c n))), (17, .int (nI (prefF (x 4) (x 9 c) c n))), (16, .int (x 9 c)), (15, .int (orF (x 9 c) (x (k + 16)) n)), (14, .int (nI 0)), (0, .ref b0), (1, .ref (ad 0)), (2, .ref (ad 46)), (3, .int (nI 1)), (4, .int (nI T)), (5, .int (nI i)), (7, .int (nI Y)), (9, .int (nI n)), (10, .int (nI c)), (11, .int (nI d)), (12, .int (nI k)), (13, .int (nI w))]) hx hb dL_law_991 hl (by decide) rfl (fun ls hl => ?_)
    refine lv_aload_n hx hb dL_law_993 rfl (lv_at hl 6 rfl) ?_
    refine lv_iload hx hb dL_law_994 (lv_at hl 13 rfl) ?_
    refine lv_iload hx hb dL_law_996 (lv_at hl 15 rfl) ?_
    refine k_Ri (va_runV (As := [.int (nI c), .int (nI k)]) (rest := []) hF (c_X3_shown l D cI cA ad n x1 c k (by omega) (by omega) (by omega)) (cwV 2 hts gL_law_X3_shown rfl rfl rfl (by decide +kernel) ⟨(Nat.le_of_ble_eq_true rfl), (Nat.le_of_ble_eq_true rfl)⟩) (k_pre (sP_c hP) hK (sD_c hD) hT (k := 0) (by decide) cF_0 rfl) rfl rfl hl.1 rfl (lv_room (Nat.le_of_ble_eq_true rfl)) dL_law_998 ⟨(by omega), (by omega)⟩) ?_
    refine r_topi (show (orF (x1 9 c) (x1 (k + 16)) n : Int32) = (orF (x 9 c) (x (k + 16)) n) ^^^ (bit w) from by rw [e_x1, putS_r (a := 9) (by decide) (by omega)]; exact hf.1) ?_
    refine lv_iload hx hb dL_law_1001 (lv_at hl 3 rfl) ?_
    refine lv_iconst (v := nI 1) hx hb dL_law_1003 (by decide) ?_
    refine lv_iload hx hb dL_law_1004 (lv_at hl 16 rfl) ?_
    refine r_bit hx hb dL_law_1006 ?_
    refine lv_ixor hx hb dL_law_1007 ?_
    refine lv_icmp_ne (tgt := 1044) hx hb dL_law_1008 (by decide) (fun h => absurd rfl h) (fun _ => ?_)
    refine lv_iload hx hb dL_law_1011 (lv_at hl 0 rfl) ?_
    refine lv_if_eq (tgt := 1044) hx hb dL_law_1013 (by decide) (fun h => absurd h hf.2.1) (fun _ => ?_)
    refine lv_iload hx hb dL_law_1016 (lv_at hl 0 rfl) ?_
    refine lv_iload hx hb dL_law_1018 (lv_at hl 2 rfl) ?_
    refine lv_iconst (v := (-1)) hx hb dL_law_1020 (by decide) ?_
    refine lv_ixor hx hb dL_law_1021 ?_
    refine lv_iand hx hb dL_law_1022 ?_
    refine lv_if_ne (tgt := 1044) hx hb dL_law_1023 (by decide) (fun h => absurd hf.2.2 h) (fun _ => ?_)
    refine lv_iload hx hb dL_law_1026 (lv_at hl 4 rfl) ?_
    refine r_ifneN (a := 0) (tgt := 1040) hx hb (by omega) dL_law_1028 (by decide) (fun h => absurd h (by decide)) (fun _ => ?_)
    refine lv_iload hx hb dL_law_1031 (lv_at hl 0 rfl) ?_
    refine lv_iconst (v := nI 1) hx hb dL_law_1033 (by decide) ?_
    refine lv_iload hx hb dL_law_1034 (lv_at hl 1 rfl) ?_
    refine r_bit hx hb dL_law_1036 ?_
    refine lv_icmp_ne (tgt := 1044) hx hb dL_law_1037 (by decide) (fun h => absurd rfl h) (fun _ => ?_)
    refine lv_iconst (v := nI 1) hx hb dL_law_1040 (by decide) ?_
    refine lv_goto (tgt := 1045) hx hb dL_law_1041 (by decide) ?_
    refine lv_istore_n (lv' := [(3, .int (nI 1)), (18, .int (bit (prefF (x 4) (x 9 c) c n))), (17, .int (nI (prefF (x 4) (x 9 c) c n))), (16, .int (x 9 c)), (15, .int (orF (x 9 c) (x (k + 16)) n)), (14, .int (nI 0)), (0, .ref b0), (1, .ref (ad 0)), (2, .ref (ad 46)), (4, .int (nI T)), (5, .int (nI i)), (7, .int (nI Y)), (9, .int (nI n)), (10, .int (nI c)), (11, .int (nI d)), (12, .int (nI k)), (13, .int (nI w))]) hx hb dL_law_1045 rfl hl (by decide) rfl (fun ls hl => ?_)
    refine lv_goto (tgt := 1203) hx hb dL_law_1046 (by decide) ?_
    exact W.widen (k := cells + 2) (n := slots + 12) (by omega) (by omega) (kk (K + 1) n x1 sn H locs ls (by omega) (by rw [e_x1]; exact Gd_putS hG hbs (by decide) hk (fit30_obit (hG.mineF (by omega) hk) (by omega))) hP hS (lv_sub hl [6, 7, 8, 0, 9, 10, 11] rfl))
