set_option maxHeartbeats 4000000 in
set_option maxRecDepth 100000 in
theorem c_X4_alike (l : Launch) (D : va_G) (cI : ClassId) (cA : ClassId) (ad : Nat → Nat) (th : Int32) (n : Nat) (y : Nat → Nat → Int32) (c : Nat) (d : Nat) (hc : c < 24) (hd : d < 24) : Met l yX4_alike wsX4_alike ({ frames := 1, cells := 0, slots := 0, locals := 22 }) (va_Pc [.ref (ad 0), .int (nI c), .int (nI d)] (mX D cI cA ad th n y)) (qR (some (.int (alk y c d)))) 0 0 nF := by
  refine c_ofR (cc := cX4_alike) (maxL := 5) (ret := .int) (by decide) rfl rfl (Nat.le_of_ble_eq_true rfl) ?_
  intro p e s m av below meth cd Q hx hb hF hP hK hD hT hret ls hl
  have hown : s.vm.findClass RX4 = some m.cls := hF.2.2.2.1
  have hF : CallFix p m cd cX4_alike 5 s av wsX4_alike RX4 := hF
  have hts := hF.2.2.2.2
  have hl : lv_has ls 5 [(0, .ref (ad 0)), (1, .int (nI c)), (2, .int (nI d))] := hl
  refine lv_aload_n hx hb dX4_alike_0 rfl (lv_at hl 0 rfl) ?_
  refine r_get (C := RX4) (T := TX4) (M := 9) (index := 16) (fd := "set") (fo := "[I") hx hb hts (by decide +kernel) hown hK hP 0 (by decide) mF_0 rfl 3 (by decide) rfl (by decide +kernel) rfl dX4_alike_1 ?_
  refine lv_iload_n hx hb dX4_alike_4 rfl (lv_at hl 1 rfl) ?_
  refine lv_iconst (v := nI 0) hx hb dX4_alike_5 (by decide) ?_
  refine lv_iconst (v := nI 0) hx hb dX4_alike_6 (by decide) ?_
  refine k_Ri (va_runS (As := [.int (nI c), .int (nI 0), .int (nI 0)]) (rest := [.ref (ad 3)]) hF (c_X4_at l c 0 0 hc (by omega) (by omega)) (va_cwS 3 hts gX4_alike_X4_at rfl rfl rfl (by decide +kernel) ⟨(Nat.le_of_ble_eq_true rfl), (Nat.le_of_ble_eq_true rfl)⟩) k_preS rfl rfl hl.1 rfl (lv_room (Nat.le_of_ble_eq_true rfl)) dX4_alike_7 ⟨Nat.zero_le _, Nat.zero_le _⟩) ?_
  refine r_topi (show (nI (6 * c + 2 * 0 + 0) : Int32) = nI (6 * c) from congrArg nI (by omega)) ?_
  refine r_iald hx hb hK hP 3 0 (by omega) mF_3 rfl (i := 6 * c) (by omega) (by decide) dX4_alike_10 ?_
  refine lv_aload_n hx hb dX4_alike_11 rfl (lv_at hl 0 rfl) ?_
  refine r_get (C := RX4) (T := TX4) (M := 9) (index := 16) (fd := "set") (fo := "[I") hx hb hts (by decide +kernel) hown hK hP 0 (by decide) mF_0 rfl 3 (by decide) rfl (by decide +kernel) rfl dX4_alike_12 ?_
  refine lv_iload_n hx hb dX4_alike_15 rfl (lv_at hl 2 rfl) ?_
  refine lv_iconst (v := nI 0) hx hb dX4_alike_16 (by decide) ?_
  refine lv_iconst (v := nI 0) hx hb dX4_alike_17 (by decide) ?_
  refine k_Ri (va_runS (As := [.int (nI d), .int (nI 0), .int (nI 0)]) (rest := [.ref (ad 3), .int (y 3 (6 * c))]) hF (c_X4_at l d 0 0 hd (by omega) (by omega)) (va_cwS 3 hts gX4_alike_X4_at rfl rfl rfl (by decide +kernel) ⟨(Nat.le_of_ble_eq_true rfl), (Nat.le_of_ble_eq_true rfl)⟩) k_preS rfl rfl hl.1 rfl (lv_room (Nat.le_of_ble_eq_true rfl)) dX4_alike_18 ⟨Nat.zero_le _, Nat.zero_le _⟩) ?_
  refine r_topi (show (nI (6 * d + 2 * 0 + 0) : Int32) = nI (6 * d) from congrArg nI (by omega)) ?_
  refine r_iald hx hb hK hP 3 0 (by omega) mF_3 rfl (i := 6 * d) (by omega) (by decide) dX4_alike_21 ?_
  refine lv_iand hx hb dX4_alike_22 ?_
  refine k_Ri (va_runS (As := [.int ((y 3 (6 * c)) &&& (y 3 (6 * d)))]) (rest := []) hF (c_X4_count l ((y 3 (6 * c)) &&& (y 3 (6 * d)))) (va_cwS 1 hts gX4_alike_X4_count rfl rfl rfl (by decide +kernel) ⟨(Nat.le_of_ble_eq_true rfl), (Nat.le_of_ble_eq_true rfl)⟩) k_preS rfl rfl hl.1 rfl (lv_room (Nat.le_of_ble_eq_true rfl)) dX4_alike_23 ⟨Nat.zero_le _, Nat.zero_le _⟩) ?_
  refine lv_istore_n (lv' := [(3, .int (cntV ((y 3 (6 * c)) &&& (y 3 (6 * d))) 30)), (0, .ref (ad 0)), (1, .int (nI c)), (2, .int (nI d))]) hx hb dX4_alike_26 rfl hl (by decide) rfl (fun ls hl => ?_)
  refine lv_aload_n hx hb dX4_alike_27 rfl (lv_at hl 1 rfl) ?_
  refine r_get (C := RX4) (T := TX4) (M := 9) (index := 16) (fd := "set") (fo := "[I") hx hb hts (by decide +kernel) hown hK hP 0 (by decide) mF_0 rfl 3 (by decide) rfl (by decide +kernel) rfl dX4_alike_28 ?_
  refine lv_iload_n hx hb dX4_alike_31 rfl (lv_at hl 2 rfl) ?_
  refine lv_iconst (v := nI 0) hx hb dX4_alike_32 (by decide) ?_
  refine lv_iconst (v := nI 1) hx hb dX4_alike_33 (by decide) ?_
  refine k_Ri (va_runS (As := [.int (nI c), .int (nI 0), .int (nI 1)]) (rest := [.ref (ad 3)]) hF (c_X4_at l c 0 1 hc (by omega) (by omega)) (va_cwS 3 hts gX4_alike_X4_at rfl rfl rfl (by decide +kernel) ⟨(Nat.le_of_ble_eq_true rfl), (Nat.le_of_ble_eq_true rfl)⟩) k_preS rfl rfl hl.1 rfl (lv_room (Nat.le_of_ble_eq_true rfl)) dX4_alike_34 ⟨Nat.zero_le _, Nat.zero_le _⟩) ?_
  refine r_topi (show (nI (6 * c + 2 * 0 + 1) : Int32) = nI (6 * c + 1) from congrArg nI (by omega)) ?_
  refine r_iald hx hb hK hP 3 0 (by omega) mF_3 rfl (i := 6 * c + 1) (by omega) (by decide) dX4_alike_37 ?_
  refine lv_aload_n hx hb dX4_alike_38 rfl (lv_at hl 1 rfl) ?_
  refine r_get (C := RX4) (T := TX4) (M := 9) (index := 16) (fd := "set") (fo := "[I") hx hb hts (by decide +kernel) hown hK hP 0 (by decide) mF_0 rfl 3 (by decide) rfl (by decide +kernel) rfl dX4_alike_39 ?_
  refine lv_iload_n hx hb dX4_alike_42 rfl (lv_at hl 3 rfl) ?_
  refine lv_iconst (v := nI 0) hx hb dX4_alike_43 (by decide) ?_
  refine lv_iconst (v := nI 1) hx hb dX4_alike_44 (by decide) ?_
  refine k_Ri (va_runS (As := [.int (nI d), .int (nI 0), .int (nI 1)]) (rest := [.ref (ad 3), .int (y 3 (6 * c + 1))]) hF (c_X4_at l d 0 1 hd (by omega) (by omega)) (va_cwS 3 hts gX4_alike_X4_at rfl rfl rfl (by decide +kernel) ⟨(Nat.le_of_ble_eq_true rfl), (Nat.le_of_ble_eq_true rfl)⟩) k_preS rfl rfl hl.1 rfl (lv_room (Nat.le_of_ble_eq_true rfl)) dX4_alike_45 ⟨Nat.zero_le _, Nat.zero_le _⟩) ?_
  refine r_topi (show (nI (6 * d + 2 * 0 + 1) : Int32) = nI (6 * d + 1) from congrArg nI (by omega)) ?_
  refine r_iald hx hb hK hP 3 0 (by omega) mF_3 rfl (i := 6 * d + 1) (by omega) (by decide) dX4_alike_48 ?_
  refine lv_iand hx hb dX4_alike_49 ?_
  refine k_Ri (va_runS (As := [.int ((y 3 (6 * c + 1)) &&& (y 3 (6 * d + 1)))]) (rest := []) hF (c_X4_count l ((y 3 (6 * c + 1)) &&& (y 3 (6 * d + 1)))) (va_cwS 1 hts gX4_alike_X4_count rfl rfl rfl (by decide +kernel) ⟨(Nat.le_of_ble_eq_true rfl), (Nat.le_of_ble_eq_true rfl)⟩) k_preS rfl rfl hl.1 rfl (lv_room (Nat.le_of_ble_eq_true rfl)) dX4_alike_50 ⟨Nat.zero_le _, Nat.zero_le _⟩) ?_
  refine lv_istore (lv' := [(4, .int (cntV ((y 3 (6 * c + 1)) &&& (y 3 (6 * d + 1))) 30)), (3, .int (cntV ((y 3 (6 * c)) &&& (y 3 (6 * d))) 30)), (0, .ref (ad 0)), (1, .int (nI c)), (2, .int (nI d))]) hx hb dX4_alike_53 hl (by decide) rfl (fun ls hl => ?_)
  refine lv_iconst (v := nI 3) hx hb dX4_alike_55 (by decide) ?_
  refine lv_iload_n hx hb dX4_alike_56 rfl (lv_at hl 1 rfl) ?_
  refine lv_imul hx hb dX4_alike_57 ?_
  refine lv_iconst (v := nI 2) hx hb dX4_alike_58 (by decide) ?_
  refine lv_iload hx hb dX4_alike_59 (lv_at hl 0 rfl) ?_
  refine lv_imul hx hb dX4_alike_61 ?_
  refine lv_iadd hx hb dX4_alike_62 ?_
  refine lv_aload_n hx hb dX4_alike_63 rfl (lv_at hl 2 rfl) ?_
  refine r_get (C := RX4) (T := TX4) (M := 9) (index := 13) (fd := "name") (fo := "[I") hx hb hts (by decide +kernel) hown hK hP 0 (by decide) mF_0 rfl 2 (by decide) rfl (by decide +kernel) rfl dX4_alike_64 ?_
  refine lv_iconst (v := nI 3) hx hb dX4_alike_67 (by decide) ?_
  refine lv_iload_n hx hb dX4_alike_68 rfl (lv_at hl 3 rfl) ?_
  refine r_mulN (a := 3) (b := c) (r := 3 * c) hx hb dX4_alike_69 (by omega) ?_
  refine r_iald hx hb hK hP 2 0 (by omega) mF_2 rfl (i := 3 * c) (by omega) (by decide) dX4_alike_70 ?_
  refine lv_aload_n hx hb dX4_alike_71 rfl (lv_at hl 2 rfl) ?_
  refine r_get (C := RX4) (T := TX4) (M := 9) (index := 13) (fd := "name") (fo := "[I") hx hb hts (by decide +kernel) hown hK hP 0 (by decide) mF_0 rfl 2 (by decide) rfl (by decide +kernel) rfl dX4_alike_72 ?_
  refine lv_iconst (v := nI 3) hx hb dX4_alike_75 (by decide) ?_
  refine lv_iload_n hx hb dX4_alike_76 rfl (lv_at hl 4 rfl) ?_
  refine r_mulN (a := 3) (b := d) (r := 3 * d) hx hb dX4_alike_77 (by omega) ?_
  refine r_iald hx hb hK hP 2 0 (by omega) mF_2 rfl (i := 3 * d) (by omega) (by decide) dX4_alike_78 ?_
  refine lv_icmp_ne (tgt := 86) hx hb dX4_alike_79 (by decide) (fun h79_1 => ?_) (fun h79_1 => ?_)
  · refine lv_iconst (v := nI 0) hx hb dX4_alike_86 (by decide) ?_
    refine lv_iadd hx hb dX4_alike_87 ?_
    exact hret _ _ _ dX4_alike_88 (by simp [alk, h79_1])
  · refine lv_iconst (v := nI 2) hx hb dX4_alike_82 (by decide) ?_
    refine lv_goto (tgt := 87) hx hb dX4_alike_83 (by decide) ?_
    refine lv_iadd hx hb dX4_alike_87 ?_
    exact hret _ _ _ dX4_alike_88 (by simp [alk, h79_1])
set_option maxHeartbeats 4000000 in
set_option maxRecDepth 100000 in
theorem c_X4_scoreOf (l : Launch) (D : va_G) (cI : ClassId) (cA : ClassId) (ad : Nat → Nat) (th : Int32) (n : Nat) (y : Nat → Nat → Int32) (c : Nat) (d : Nat) (g : Nat → Int32) (hc : c < n) (hd : d < n) (hn : n ≤ 24) (hg : ∀ i, i < n → isGrp (y 4) n i (g i)) : Met l yX4_scoreOf wsX4_scoreOf ({ frames := 2, cells := 0, slots := 0, locals := 46 }) (va_Pc [.ref (ad 0), .int (nI c), .int (nI d)] (mX D cI cA ad th n y)) (qR (some (.int (msc y g c d)))) 0 0 nF := by
  refine c_ofR (cc := cX4_scoreOf) (maxL := 3) (ret := .int) (by decide) rfl rfl (Nat.le_of_ble_eq_true rfl) ?_
  intro p e s m av below meth cd Q hx hb hF hP hK hD hT hret ls hl
  have hown : s.vm.findClass RX4 = some m.cls := hF.2.2.2.1
  have hF : CallFix p m cd cX4_scoreOf 3 s av wsX4_scoreOf RX4 := hF
  have hts := hF.2.2.2.2
  have hl : lv_has ls 3 [(0, .ref (ad 0)), (1, .int (nI c)), (2, .int (nI d))] := hl
  refine lv_aload_n hx hb dX4_scoreOf_0 rfl (lv_at hl 0 rfl) ?_
  refine lv_iload_n hx hb dX4_scoreOf_1 rfl (lv_at hl 1 rfl) ?_
  refine k_Ri (va_runV (As := [.int (nI c)]) (rest := []) hF (c_X4_groupOf l D cI cA ad th n y c (g c) hc hn (hg c hc)) (cwV 1 hts gX4_scoreOf_X4_groupOf rfl rfl rfl (by decide +kernel) ⟨(Nat.le_of_ble_eq_true rfl), (Nat.le_of_ble_eq_true rfl)⟩) (k_pre hP hK hD hT (k := 0) (by decide) mF_0 rfl) rfl rfl hl.1 rfl (lv_room (Nat.le_of_ble_eq_true rfl)) dX4_scoreOf_2 ⟨Nat.zero_le _, Nat.zero_le _⟩) ?_
  refine lv_iload_n hx hb dX4_scoreOf_5 rfl (lv_at hl 2 rfl) ?_
  refine k_Ri (va_runS (As := [.int ((g c)), .int (nI d)]) (rest := []) hF (c_X4_has l d ((g c)) (by omega)) (va_cwS 2 hts gX4_scoreOf_X4_has rfl rfl rfl (by decide +kernel) ⟨(Nat.le_of_ble_eq_true rfl), (Nat.le_of_ble_eq_true rfl)⟩) k_preS rfl rfl hl.1 rfl (lv_room (Nat.le_of_ble_eq_true rfl)) dX4_scoreOf_6 ⟨Nat.zero_le _, Nat.zero_le _⟩) ?_
  refine r_ifeqB (b := hasB ((g c)) d) (tgt := 16) hx hb dX4_scoreOf_9 (by decide) (fun h9_1 => ?_) (fun h9_1 => ?_)
  · refine lv_aload_n hx hb dX4_scoreOf_16 rfl (lv_at hl 0 rfl) ?_
    refine lv_iload_n hx hb dX4_scoreOf_17 rfl (lv_at hl 1 rfl) ?_
    refine lv_iload_n hx hb dX4_scoreOf_18 rfl (lv_at hl 2 rfl) ?_
    refine k_Ri (va_runV (As := [.int (nI c), .int (nI d)]) (rest := []) hF (c_X4_alike l D cI cA ad th n y c d (by omega) (by omega)) (cwV 2 hts gX4_scoreOf_X4_alike rfl rfl rfl (by decide +kernel) ⟨(Nat.le_of_ble_eq_true rfl), (Nat.le_of_ble_eq_true rfl)⟩) (k_pre hP hK hD hT (k := 0) (by decide) mF_0 rfl) rfl rfl hl.1 rfl (lv_room (Nat.le_of_ble_eq_true rfl)) dX4_scoreOf_19 ⟨Nat.zero_le _, Nat.zero_le _⟩) ?_
    exact hret _ _ _ dX4_scoreOf_22 (by simp [msc, h9_1])
  · refine lv_iconst (v := nI 0) hx hb dX4_scoreOf_12 (by decide) ?_
    refine lv_goto (tgt := 22) hx hb dX4_scoreOf_13 (by decide) ?_
    exact hret _ _ _ dX4_scoreOf_22 (by simp [msc, h9_1])
set_option maxHeartbeats 4000000 in
set_option maxRecDepth 100000 in
theorem c_X4_isSuggested (l : Launch) (D : va_G) (cI : ClassId) (cA : ClassId) (ad : Nat → Nat) (th : Int32) (n : Nat) (y : Nat → Nat → Int32) (c : Nat) (d : Nat) (g : Nat → Int32) (hc : c < n) (hd : d < n) (hn : n ≤ 24) (hg : ∀ i, i < n → isGrp (y 4) n i (g i)) : Met l yX4_isSuggested wsX4_isSuggested ({ frames := 3, cells := 0, slots := 0, locals := 68 }) (va_Pc [.ref (ad 0), .int (nI c), .int (nI d)] (mX D cI cA ad th n y)) (qR (some (.int (bI (msug y g c d))))) 0 0 nF := by
  refine c_ofR (cc := cX4_isSuggested) (maxL := 3) (ret := .boolean) (by decide) rfl (nar_bI _) (Nat.le_of_ble_eq_true rfl) ?_
  intro p e s m av below meth cd Q hx hb hF hP hK hD hT hret ls hl
  have hown : s.vm.findClass RX4 = some m.cls := hF.2.2.2.1
  have hF : CallFix p m cd cX4_isSuggested 3 s av wsX4_isSuggested RX4 := hF
  have hts := hF.2.2.2.2
  have hl : lv_has ls 3 [(0, .ref (ad 0)), (1, .int (nI c)), (2, .int (nI d))] := hl
  refine lv_aload_n hx hb dX4_isSuggested_0 rfl (lv_at hl 0 rfl) ?_
  refine r_get (C := RX4) (T := TX4) (M := 9) (index := 22) (fd := "good") (fo := "[I") hx hb hts (by decide +kernel) hown hK hP 0 (by decide) mF_0 rfl 5 (by decide) rfl (by decide +kernel) rfl dX4_isSuggested_1 ?_
  refine lv_iload_n hx hb dX4_isSuggested_4 rfl (lv_at hl 1 rfl) ?_
  refine r_iald hx hb hK hP 5 0 (by omega) (mF_a 5 (by omega)) rfl (i := c) (by omega) (by decide) dX4_isSuggested_5 ?_
  refine lv_iload_n hx hb dX4_isSuggested_6 rfl (lv_at hl 2 rfl) ?_
  refine k_Ri (va_runS (As := [.int (y 5 c), .int (nI d)]) (rest := []) hF (c_X4_has l d (y 5 c) (by omega)) (va_cwS 2 hts gX4_isSuggested_X4_has rfl rfl rfl (by decide +kernel) ⟨(Nat.le_of_ble_eq_true rfl), (Nat.le_of_ble_eq_true rfl)⟩) k_preS rfl rfl hl.1 rfl (lv_room (Nat.le_of_ble_eq_true rfl)) dX4_isSuggested_7 ⟨Nat.zero_le _, Nat.zero_le _⟩) ?_
  refine r_ifneB (b := hasB (y 5 c) d) (tgt := 39) hx hb dX4_isSuggested_10 (by decide) (fun h10_1 => ?_) (fun h10_1 => ?_)
  · refine lv_iconst (v := nI 0) hx hb dX4_isSuggested_39 (by decide) ?_
    exact hret _ _ _ dX4_isSuggested_40 (by simp [msug, bI, h10_1])
  · refine lv_aload_n hx hb dX4_isSuggested_13 rfl (lv_at hl 0 rfl) ?_
    refine r_get (C := RX4) (T := TX4) (M := 9) (index := 25) (fd := "forNow") (fo := "[I") hx hb hts (by decide +kernel) hown hK hP 0 (by decide) mF_0 rfl 6 (by decide) rfl (by decide +kernel) rfl dX4_isSuggested_14 ?_
    refine lv_iload_n hx hb dX4_isSuggested_17 rfl (lv_at hl 1 rfl) ?_
    refine r_iald hx hb hK hP 6 0 (by omega) (mF_a 6 (by omega)) rfl (i := c) (by omega) (by decide) dX4_isSuggested_18 ?_
    refine lv_iload_n hx hb dX4_isSuggested_19 rfl (lv_at hl 2 rfl) ?_
    refine k_Ri (va_runS (As := [.int (y 6 c), .int (nI d)]) (rest := []) hF (c_X4_has l d (y 6 c) (by omega)) (va_cwS 2 hts gX4_isSuggested_X4_has rfl rfl rfl (by decide +kernel) ⟨(Nat.le_of_ble_eq_true rfl), (Nat.le_of_ble_eq_true rfl)⟩) k_preS rfl rfl hl.1 rfl (lv_room (Nat.le_of_ble_eq_true rfl)) dX4_isSuggested_20 ⟨Nat.zero_le _, Nat.zero_le _⟩) ?_
    refine r_ifneB (b := hasB (y 6 c) d) (tgt := 39) hx hb dX4_isSuggested_23 (by decide) (fun h23_2 => ?_) (fun h23_2 => ?_)
    · refine lv_iconst (v := nI 0) hx hb dX4_isSuggested_39 (by decide) ?_
      exact hret _ _ _ dX4_isSuggested_40 (by simp [msug, bI, h10_1, h23_2])
    · refine lv_aload_n hx hb dX4_isSuggested_26 rfl (lv_at hl 0 rfl) ?_
      refine lv_iload_n hx hb dX4_isSuggested_27 rfl (lv_at hl 1 rfl) ?_
      refine lv_iload_n hx hb dX4_isSuggested_28 rfl (lv_at hl 2 rfl) ?_
      refine k_Ri (va_runV (As := [.int (nI c), .int (nI d)]) (rest := []) hF (c_X4_scoreOf l D cI cA ad th n y c d g hc hd hn hg) (cwV 2 hts gX4_isSuggested_X4_scoreOf rfl rfl rfl (by decide +kernel) ⟨(Nat.le_of_ble_eq_true rfl), (Nat.le_of_ble_eq_true rfl)⟩) (k_pre hP hK hD hT (k := 0) (by decide) mF_0 rfl) rfl rfl hl.1 rfl (lv_room (Nat.le_of_ble_eq_true rfl)) dX4_isSuggested_29 ⟨Nat.zero_le _, Nat.zero_le _⟩) ?_
      refine lv_if_le (tgt := 39) hx hb dX4_isSuggested_32 (by decide) (fun h32_3 => ?_) (fun h32_3 => ?_)
      · refine lv_iconst (v := nI 0) hx hb dX4_isSuggested_39 (by decide) ?_
        exact hret _ _ _ dX4_isSuggested_40 (by simp [msug, bI, h10_1, h23_2, h32_3])
      · refine lv_iconst (v := nI 1) hx hb dX4_isSuggested_35 (by decide) ?_
        refine lv_goto (tgt := 40) hx hb dX4_isSuggested_36 (by decide) ?_
        exact hret _ _ _ dX4_isSuggested_40 (by simp [msug, bI, h10_1, h23_2, h32_3])
set_option maxHeartbeats 4000000 in
set_option maxRecDepth 100000 in
theorem m_score_0 (l : Launch) (D : va_G) (cI : ClassId) (cA : ClassId) (ad : Nat → Nat) (th : Int32) (n : Nat) (y : Nat → Nat → Int32) (c : Nat) (d : Nat) (g : Nat → Int32) (hc : c < n) (hd : d < n) (hne : c ≠ d) (hn : n ≤ 24) (hg : ∀ i, i < n → isGrp (y 4) n i (g i)) : Met l yX4_score wsX4_score ({ frames := 3, cells := 0, slots := 0, locals := 68 }) (va_Pc [.ref (ad 0), .int (nI c), .int (nI d)] (mX D cI cA ad th n y)) (qW D ad (mF cI ad (nI 0) n y) 8 (some (.int (msc y g c d)))) 0 0 (wA ad 8) := by
  refine c_ofW (cc := cX4_score) (maxL := 4) (ret := .int) (by decide) rfl rfl (Nat.le_of_ble_eq_true rfl) ?_
  intro p e s m av below meth cd Q hx hb hF hP hK hD hT hret ls hl
  have hown : s.vm.findClass RX4 = some m.cls := hF.2.2.2.1
  have hF : CallFix p m cd cX4_score 4 s av wsX4_score RX4 := hF
  have hts := hF.2.2.2.2
  have hl : lv_has ls 4 [(0, .ref (ad 0)), (1, .int (nI c)), (2, .int (nI d))] := hl
  obtain ⟨H, eH⟩ : ∃ H9 : Heap, H9 = s.heap := ⟨_, rfl⟩
  obtain ⟨locs, eL⟩ : ∃ L9 : List Loc, L9 = [] := ⟨_, rfl⟩
  have hS : sS (wA ad 8) s.heap H locs := by rw [eH, eL]; exact sS.rf
  rw [← eH] at hP
  suffices hgo : W p l e ({ frames := 3, cells := 0, slots := 0, locals := 68 }) s m av below meth cd H locs 0 0 Q (F0 m 0 ls []) by rw [eH, eL] at hgo; exact hgo
  clear eH eL
  refine lv_aload_n hx hb dX4_score_0 rfl (lv_at hl 0 rfl) ?_
  refine lv_iload_n hx hb dX4_score_1 rfl (lv_at hl 1 rfl) ?_
  refine k_Ri (va_runV (As := [.int (nI c)]) (rest := []) hF (c_X4_isCard l D cI cA ad th n y (nI c) hn) (cwV 1 hts gX4_score_X4_isCard rfl rfl rfl (by decide +kernel) ⟨(Nat.le_of_ble_eq_true rfl), (Nat.le_of_ble_eq_true rfl)⟩) (k_pre hP hK hD hT (k := 0) (by decide) mF_0 rfl) rfl rfl hl.1 rfl (lv_room (Nat.le_of_ble_eq_true rfl)) dX4_score_2 ⟨Nat.zero_le _, Nat.zero_le _⟩) ?_
  refine r_topi (show bI (cardB n (nI c)) = bI true from congrArg bI (cardB_ok hc hn)) ?_
  refine r_ifeqB (b := true) (tgt := 20) hx hb dX4_score_5 (by decide) (fun h => absurd h (by decide)) (fun _ => ?_)
  refine lv_aload_n hx hb dX4_score_8 rfl (lv_at hl 0 rfl) ?_
  refine lv_iload_n hx hb dX4_score_9 rfl (lv_at hl 2 rfl) ?_
  refine k_Ri (va_runV (As := [.int (nI d)]) (rest := []) hF (c_X4_isCard l D cI cA ad th n y (nI d) hn) (cwV 1 hts gX4_score_X4_isCard rfl rfl rfl (by decide +kernel) ⟨(Nat.le_of_ble_eq_true rfl), (Nat.le_of_ble_eq_true rfl)⟩) (k_pre hP hK hD hT (k := 0) (by decide) mF_0 rfl) rfl rfl hl.1 rfl (lv_room (Nat.le_of_ble_eq_true rfl)) dX4_score_10 ⟨Nat.zero_le _, Nat.zero_le _⟩) ?_
  refine r_topi (show bI (cardB n (nI d)) = bI true from congrArg bI (cardB_ok hd hn)) ?_
  refine r_ifeqB (b := true) (tgt := 20) hx hb dX4_score_13 (by decide) (fun h => absurd h (by decide)) (fun _ => ?_)
  refine lv_iconst (v := nI 1) hx hb dX4_score_16 (by decide) ?_
  refine lv_goto (tgt := 21) hx hb dX4_score_17 (by decide) ?_
  refine lv_istore_n (lv' := [(3, .int (nI 1)), (0, .ref (ad 0)), (1, .int (nI c)), (2, .int (nI d))]) hx hb dX4_score_21 rfl hl (by decide) rfl (fun ls hl => ?_)
  refine lv_aload_n hx hb dX4_score_22 rfl (lv_at hl 1 rfl) ?_
  refine lv_iload_n hx hb dX4_score_23 rfl (lv_at hl 0 rfl) ?_
  refine r_ifneN (a := 1) (tgt := 31) hx hb (by omega) dX4_score_24 (by decide) (fun _ => ?_) (fun h => absurd h (by omega))
  refine lv_iload_n hx hb dX4_score_31 rfl (lv_at hl 2 rfl) ?_
  refine lv_iload_n hx hb dX4_score_32 rfl (lv_at hl 3 rfl) ?_
  refine r_cneN (a := c) (b := d) (tgt := 40) hx hb (by omega) (by omega) dX4_score_33 (by decide) (fun _ => ?_) (fun h => absurd h (by omega))
  refine lv_iconst (v := nI 0) hx hb dX4_score_40 (by decide) ?_
  refine k_Wi (va_runV (As := [.int (nI 0)]) (rest := []) hF (c_X4_isFine_0 l D cI cA ad th n y) (cwV 1 hts gX4_score_X4_isFine rfl rfl rfl (by decide +kernel) ⟨(Nat.le_of_ble_eq_true rfl), (Nat.le_of_ble_eq_true rfl)⟩) (k_pre hP hK hD hT (k := 0) (by decide) mF_0 rfl) rfl rfl hl.1 rfl (lv_room (Nat.le_of_ble_eq_true rfl)) dX4_score_41 ⟨Nat.zero_le _, Nat.zero_le _⟩) hD hS (fun H locs hP hS => ?_)
  refine r_ifeqB (b := true) (tgt := 56) hx hb dX4_score_44 (by decide) (fun h => absurd h (by decide)) (fun _ => ?_)
  refine lv_aload_n hx hb dX4_score_47 rfl (lv_at hl 1 rfl) ?_
  refine lv_iload_n hx hb dX4_score_48 rfl (lv_at hl 2 rfl) ?_
  refine lv_iload_n hx hb dX4_score_49 rfl (lv_at hl 3 rfl) ?_
  refine k_Ri (va_runV (As := [.int (nI c), .int (nI d)]) (rest := []) hF (c_X4_scoreOf l D cI cA ad (nI 0) n y c d g hc hd hn hg) (cwV 2 hts gX4_score_X4_scoreOf rfl rfl rfl (by decide +kernel) ⟨(Nat.le_of_ble_eq_true rfl), (Nat.le_of_ble_eq_true rfl)⟩) (k_pre hP hK hD hT (k := 0) (by decide) mF_0 rfl) rfl rfl hl.1 rfl (lv_room (Nat.le_of_ble_eq_true rfl)) dX4_score_50 ⟨Nat.zero_le _, Nat.zero_le _⟩) ?_
  refine lv_goto (tgt := 57) hx hb dX4_score_53 (by decide) ?_
  exact hret _ _ _ _ _ _ hP hS dX4_score_57 (rfl) (rfl)
set_option maxHeartbeats 4000000 in
set_option maxRecDepth 100000 in
theorem m_score_1 (l : Launch) (D : va_G) (cI : ClassId) (cA : ClassId) (ad : Nat → Nat) (th : Int32) (n : Nat) (y : Nat → Nat → Int32) (a : Int32) (b : Int32) (hn : n ≤ 24) (hbad : (cardB n a && cardB n b) = false) : Met l yX4_score wsX4_score ({ frames := 2, cells := 0, slots := 0, locals := 43 }) (va_Pc [.ref (ad 0), .int a, .int b] (mX D cI cA ad th n y)) (qW D ad (mF cI ad (nI 1) n y) 8 (some (.int (nI 0)))) 0 0 (wA ad 8) := by
  refine c_ofW (cc := cX4_score) (maxL := 4) (ret := .int) (by decide) rfl rfl (Nat.le_of_ble_eq_true rfl) ?_
  intro p e s m av below meth cd Q hx hb hF hP hK hD hT hret ls hl
  have hown : s.vm.findClass RX4 = some m.cls := hF.2.2.2.1
  have hF : CallFix p m cd cX4_score 4 s av wsX4_score RX4 := hF
  have hts := hF.2.2.2.2
  have hl : lv_has ls 4 [(0, .ref (ad 0)), (1, .int a), (2, .int b)] := hl
  obtain ⟨H, eH⟩ : ∃ H9 : Heap, H9 = s.heap := ⟨_, rfl⟩
  obtain ⟨locs, eL⟩ : ∃ L9 : List Loc, L9 = [] := ⟨_, rfl⟩
  have hS : sS (wA ad 8) s.heap H locs := by rw [eH, eL]; exact sS.rf
  rw [← eH] at hP
  suffices hgo : W p l e ({ frames := 2, cells := 0, slots := 0, locals := 43 }) s m av below meth cd H locs 0 0 Q (F0 m 0 ls []) by rw [eH, eL] at hgo; exact hgo
  clear eH eL
  refine lv_aload_n hx hb dX4_score_0 rfl (lv_at hl 0 rfl) ?_
  refine lv_iload_n hx hb dX4_score_1 rfl (lv_at hl 1 rfl) ?_
  refine k_Ri (va_runV (As := [.int a]) (rest := []) hF (c_X4_isCard l D cI cA ad th n y a hn) (cwV 1 hts gX4_score_X4_isCard rfl rfl rfl (by decide +kernel) ⟨(Nat.le_of_ble_eq_true rfl), (Nat.le_of_ble_eq_true rfl)⟩) (k_pre hP hK hD hT (k := 0) (by decide) mF_0 rfl) rfl rfl hl.1 rfl (lv_room (Nat.le_of_ble_eq_true rfl)) dX4_score_2 ⟨Nat.zero_le _, Nat.zero_le _⟩) ?_
  have hJ21 : ∀ (H : Heap) (locs : List Loc), va_P D vwCl (wl ad (mF cI ad th n y) 8) H → sS (wA ad 8) s.heap H locs → ∀ ls : Array Slot, lv_has ls 4 [(0, .ref (ad 0)), (1, .int a), (2, .int b)] → W p l e ({ frames := 2, cells := 0, slots := 0, locals := 43 }) s m av below meth cd H locs 0 0 Q (F0 m 21 ls [.int (bI (cardB n a && cardB n b))]) := by
    intro H locs hP hS ls hl
    refine lv_istore_n (lv' := [(3, .int (bI (cardB n a && cardB n b))), (0, .ref (ad 0)), (1, .int a), (2, .int b)]) hx hb dX4_score_21 rfl hl (by decide) rfl (fun ls hl => ?_)
    refine lv_aload_n hx hb dX4_score_22 rfl (lv_at hl 1 rfl) ?_
    refine lv_iload_n hx hb dX4_score_23 rfl (lv_at hl 0 rfl) ?_
    refine r_ifneB (b := cardB n a && cardB n b) (tgt := 31) hx hb dX4_score_24 (by decide) (fun h => absurd (h.symm.trans hbad) (by decide)) (fun _ => ?_)
    refine lv_iconst (v := nI 1) hx hb dX4_score_27 (by decide) ?_
    refine lv_goto (tgt := 41) hx hb dX4_score_28 (by decide) ?_
    refine k_Wi (va_runV (As := [.int (nI 1)]) (rest := []) hF (c_X4_isFine_1 l D cI cA ad th n y) (cwV 1 hts gX4_score_X4_isFine rfl rfl rfl (by decide +kernel) ⟨(Nat.le_of_ble_eq_true rfl), (Nat.le_of_ble_eq_true rfl)⟩) (k_pre hP hK hD hT (k := 0) (by decide) mF_0 rfl) rfl rfl hl.1 rfl (lv_room (Nat.le_of_ble_eq_true rfl)) dX4_score_41 ⟨Nat.zero_le _, Nat.zero_le _⟩) hD hS (fun H locs hP hS => ?_)
    refine r_ifeqB (b := false) (tgt := 56) hx hb dX4_score_44 (by decide) (fun _ => ?_) (fun h => absurd h (by decide))
    refine lv_iconst (v := nI 0) hx hb dX4_score_56 (by decide) ?_
    exact hret _ _ _ _ _ _ hP hS dX4_score_57 (rfl) (rfl)
  refine r_ifeqB (b := cardB n a) (tgt := 20) hx hb dX4_score_5 (by decide) (fun h5_3 => ?_) (fun h5_3 => ?_)
  · refine lv_iconst (v := nI 0) hx hb dX4_score_20 (by decide) ?_
    refine r_topi (show (nI 0 : Int32) = bI (cardB n a && cardB n b) from by simp [bI, h5_3]) ?_
    exact hJ21 _ _ hP hS _ (lv_sub hl [0, 1, 2] rfl)
  · refine lv_aload_n hx hb dX4_score_8 rfl (lv_at hl 0 rfl) ?_
    refine lv_iload_n hx hb dX4_score_9 rfl (lv_at hl 2 rfl) ?_
    refine k_Ri (va_runV (As := [.int b]) (rest := []) hF (c_X4_isCard l D cI cA ad th n y b hn) (cwV 1 hts gX4_score_X4_isCard rfl rfl rfl (by decide +kernel) ⟨(Nat.le_of_ble_eq_true rfl), (Nat.le_of_ble_eq_true rfl)⟩) (k_pre hP hK hD hT (k := 0) (by decide) mF_0 rfl) rfl rfl hl.1 rfl (lv_room (Nat.le_of_ble_eq_true rfl)) dX4_score_10 ⟨Nat.zero_le _, Nat.zero_le _⟩) ?_
    refine r_ifeqB (b := cardB n b) (tgt := 20) hx hb dX4_score_13 (by decide) (fun h13_4 => ?_) (fun h13_4 => ?_)
    · refine lv_iconst (v := nI 0) hx hb dX4_score_20 (by decide) ?_
      refine r_topi (show (nI 0 : Int32) = bI (cardB n a && cardB n b) from by simp [bI, h5_3, h13_4]) ?_
      exact hJ21 _ _ hP hS _ (lv_sub hl [0, 1, 2] rfl)
    · refine lv_iconst (v := nI 1) hx hb dX4_score_16 (by decide) ?_
      refine lv_goto (tgt := 21) hx hb dX4_score_17 (by decide) ?_
      refine r_topi (show (nI 1 : Int32) = bI (cardB n a && cardB n b) from by simp [bI, h5_3, h13_4]) ?_
      exact hJ21 _ _ hP hS _ (lv_sub hl [0, 1, 2] rfl)
set_option maxHeartbeats 4000000 in
set_option maxRecDepth 100000 in
theorem m_score_2 (l : Launch) (D : va_G) (cI : ClassId) (cA : ClassId) (ad : Nat → Nat) (th : Int32) (n : Nat) (y : Nat → Nat → Int32) (c : Nat) (hc : c < n) (hn : n ≤ 24) : Met l yX4_score wsX4_score ({ frames := 2, cells := 0, slots := 0, locals := 43 }) (va_Pc [.ref (ad 0), .int (nI c), .int (nI c)] (mX D cI cA ad th n y)) (qW D ad (mF cI ad (nI 2) n y) 8 (some (.int (nI 0)))) 0 0 (wA ad 8) := by
  refine c_ofW (cc := cX4_score) (maxL := 4) (ret := .int) (by decide) rfl rfl (Nat.le_of_ble_eq_true rfl) ?_
  intro p e s m av below meth cd Q hx hb hF hP hK hD hT hret ls hl
  have hown : s.vm.findClass RX4 = some m.cls := hF.2.2.2.1
  have hF : CallFix p m cd cX4_score 4 s av wsX4_score RX4 := hF
  have hts := hF.2.2.2.2
  have hl : lv_has ls 4 [(0, .ref (ad 0)), (1, .int (nI c)), (2, .int (nI c))] := hl
  obtain ⟨H, eH⟩ : ∃ H9 : Heap, H9 = s.heap := ⟨_, rfl⟩
  obtain ⟨locs, eL⟩ : ∃ L9 : List Loc, L9 = [] := ⟨_, rfl⟩
  have hS : sS (wA ad 8) s.heap H locs := by rw [eH, eL]; exact sS.rf
  rw [← eH] at hP
  suffices hgo : W p l e ({ frames := 2, cells := 0, slots := 0, locals := 43 }) s m av below meth cd H locs 0 0 Q (F0 m 0 ls []) by rw [eH, eL] at hgo; exact hgo
  clear eH eL
  refine lv_aload_n hx hb dX4_score_0 rfl (lv_at hl 0 rfl) ?_
  refine lv_iload_n hx hb dX4_score_1 rfl (lv_at hl 1 rfl) ?_
  refine k_Ri (va_runV (As := [.int (nI c)]) (rest := []) hF (c_X4_isCard l D cI cA ad th n y (nI c) hn) (cwV 1 hts gX4_score_X4_isCard rfl rfl rfl (by decide +kernel) ⟨(Nat.le_of_ble_eq_true rfl), (Nat.le_of_ble_eq_true rfl)⟩) (k_pre hP hK hD hT (k := 0) (by decide) mF_0 rfl) rfl rfl hl.1 rfl (lv_room (Nat.le_of_ble_eq_true rfl)) dX4_score_2 ⟨Nat.zero_le _, Nat.zero_le _⟩) ?_
  refine r_topi (show bI (cardB n (nI c)) = bI true from congrArg bI (cardB_ok hc hn)) ?_
  refine r_ifeqB (b := true) (tgt := 20) hx hb dX4_score_5 (by decide) (fun h => absurd h (by decide)) (fun _ => ?_)
  refine lv_aload_n hx hb dX4_score_8 rfl (lv_at hl 0 rfl) ?_
  refine lv_iload_n hx hb dX4_score_9 rfl (lv_at hl 2 rfl) ?_
  refine k_Ri (va_runV (As := [.int (nI c)]) (rest := []) hF (c_X4_isCard l D cI cA ad th n y (nI c) hn) (cwV 1 hts gX4_score_X4_isCard rfl rfl rfl (by decide +kernel) ⟨(Nat.le_of_ble_eq_true rfl), (Nat.le_of_ble_eq_true rfl)⟩) (k_pre hP hK hD hT (k := 0) (by decide) mF_0 rfl) rfl rfl hl.1 rfl (lv_room (Nat.le_of_ble_eq_true rfl)) dX4_score_10 ⟨Nat.zero_le _, Nat.zero_le _⟩) ?_
  refine r_topi (show bI (cardB n (nI c)) = bI true from congrArg bI (cardB_ok hc hn)) ?_
  refine r_ifeqB (b := true) (tgt := 20) hx hb dX4_score_13 (by decide) (fun h => absurd h (by decide)) (fun _ => ?_)
  refine lv_iconst (v := nI 1) hx hb dX4_score_16 (by decide) ?_
  refine lv_goto (tgt := 21) hx hb dX4_score_17 (by decide) ?_
  refine lv_istore_n (lv' := [(3, .int (nI 1)), (0, .ref (ad 0)), (1, .int (nI c)), (2, .int (nI c))]) hx hb dX4_score_21 rfl hl (by decide) rfl (fun ls hl => ?_)
  refine lv_aload_n hx hb dX4_score_22 rfl (lv_at hl 1 rfl) ?_
  refine lv_iload_n hx hb dX4_score_23 rfl (lv_at hl 0 rfl) ?_
  refine r_ifneN (a := 1) (tgt := 31) hx hb (by omega) dX4_score_24 (by decide) (fun _ => ?_) (fun h => absurd h (by omega))
  refine lv_iload_n hx hb dX4_score_31 rfl (lv_at hl 2 rfl) ?_
  refine lv_iload_n hx hb dX4_score_32 rfl (lv_at hl 3 rfl) ?_
  refine r_cneN (a := c) (b := c) (tgt := 40) hx hb (by omega) (by omega) dX4_score_33 (by decide) (fun h => absurd h (by omega)) (fun _ => ?_)
  refine lv_iconst (v := nI 2) hx hb dX4_score_36 (by decide) ?_
  refine lv_goto (tgt := 41) hx hb dX4_score_37 (by decide) ?_
  refine k_Wi (va_runV (As := [.int (nI 2)]) (rest := []) hF (c_X4_isFine_2 l D cI cA ad th n y) (cwV 1 hts gX4_score_X4_isFine rfl rfl rfl (by decide +kernel) ⟨(Nat.le_of_ble_eq_true rfl), (Nat.le_of_ble_eq_true rfl)⟩) (k_pre hP hK hD hT (k := 0) (by decide) mF_0 rfl) rfl rfl hl.1 rfl (lv_room (Nat.le_of_ble_eq_true rfl)) dX4_score_41 ⟨Nat.zero_le _, Nat.zero_le _⟩) hD hS (fun H locs hP hS => ?_)
  refine r_ifeqB (b := false) (tgt := 56) hx hb dX4_score_44 (by decide) (fun _ => ?_) (fun h => absurd h (by decide))
  refine lv_iconst (v := nI 0) hx hb dX4_score_56 (by decide) ?_
  exact hret _ _ _ _ _ _ hP hS dX4_score_57 (rfl) (rfl)
set_option maxHeartbeats 4000000 in
set_option maxRecDepth 100000 in
theorem m_link_0 (l : Launch) (D : va_G) (cI : ClassId) (cA : ClassId) (ad : Nat → Nat) (th : Int32) (n : Nat) (y : Nat → Nat → Int32) (c : Nat) (d : Nat) (r : Int32) (hc : c < n) (hd : d < n) (hne : c ≠ d) (hn : n ≤ 24) (hlk : hasB (y 4 c) d = false) (hg : isGrp (mlnk y c d 4) n c r) : Met l yX4_link wsX4_link ({ frames := 2, cells := 0, slots := 0, locals := 45 }) (va_Pc [.ref (ad 0), .int (nI c), .int (nI d)] (mX D cI cA ad th n y)) (qW D ad (mF cI ad (nI 0) n (mlnk y c d)) 8 (some (.int (cntV r 30)))) 0 0 (wA ad 8) := by
  refine c_ofW (cc := cX4_link) (maxL := 4) (ret := .int) (by decide) rfl rfl (Nat.le_of_ble_eq_true rfl) ?_
  intro p e s m av below meth cd Q hx hb hF hP hK hD hT hret ls hl
  have hown : s.vm.findClass RX4 = some m.cls := hF.2.2.2.1
  have hF : CallFix p m cd cX4_link 4 s av wsX4_link RX4 := hF
  have hts := hF.2.2.2.2
  have hl : lv_has ls 4 [(0, .ref (ad 0)), (1, .int (nI c)), (2, .int (nI d))] := hl
  obtain ⟨H, eH⟩ : ∃ H9 : Heap, H9 = s.heap := ⟨_, rfl⟩
  obtain ⟨locs, eL⟩ : ∃ L9 : List Loc, L9 = [] := ⟨_, rfl⟩
  have hS : sS (wA ad 8) s.heap H locs := by rw [eH, eL]; exact sS.rf
  rw [← eH] at hP
  suffices hgo : W p l e ({ frames := 2, cells := 0, slots := 0, locals := 45 }) s m av below meth cd H locs 0 0 Q (F0 m 0 ls []) by rw [eH, eL] at hgo; exact hgo
  clear eH eL
  refine lv_aload_n hx hb dX4_link_0 rfl (lv_at hl 0 rfl) ?_
  refine lv_iload_n hx hb dX4_link_1 rfl (lv_at hl 1 rfl) ?_
  refine k_Ri (va_runV (As := [.int (nI c)]) (rest := []) hF (c_X4_isCard l D cI cA ad th n y (nI c) hn) (cwV 1 hts gX4_link_X4_isCard rfl rfl rfl (by decide +kernel) ⟨(Nat.le_of_ble_eq_true rfl), (Nat.le_of_ble_eq_true rfl)⟩) (k_pre hP hK hD hT (k := 0) (by decide) mF_0 rfl) rfl rfl hl.1 rfl (lv_room (Nat.le_of_ble_eq_true rfl)) dX4_link_2 ⟨Nat.zero_le _, Nat.zero_le _⟩) ?_
  refine r_topi (show bI (cardB n (nI c)) = bI true from congrArg bI (cardB_ok hc hn)) ?_
  refine r_ifeqB (b := true) (tgt := 20) hx hb dX4_link_5 (by decide) (fun h => absurd h (by decide)) (fun _ => ?_)
  refine lv_aload_n hx hb dX4_link_8 rfl (lv_at hl 0 rfl) ?_
  refine lv_iload_n hx hb dX4_link_9 rfl (lv_at hl 2 rfl) ?_
  refine k_Ri (va_runV (As := [.int (nI d)]) (rest := []) hF (c_X4_isCard l D cI cA ad th n y (nI d) hn) (cwV 1 hts gX4_link_X4_isCard rfl rfl rfl (by decide +kernel) ⟨(Nat.le_of_ble_eq_true rfl), (Nat.le_of_ble_eq_true rfl)⟩) (k_pre hP hK hD hT (k := 0) (by decide) mF_0 rfl) rfl rfl hl.1 rfl (lv_room (Nat.le_of_ble_eq_true rfl)) dX4_link_10 ⟨Nat.zero_le _, Nat.zero_le _⟩) ?_
  refine r_topi (show bI (cardB n (nI d)) = bI true from congrArg bI (cardB_ok hd hn)) ?_
  refine r_ifeqB (b := true) (tgt := 20) hx hb dX4_link_13 (by decide) (fun h => absurd h (by decide)) (fun _ => ?_)
  refine lv_iconst (v := nI 1) hx hb dX4_link_16 (by decide) ?_
  refine lv_goto (tgt := 21) hx hb dX4_link_17 (by decide) ?_
  refine lv_istore_n (lv' := [(3, .int (nI 1)), (0, .ref (ad 0)), (1, .int (nI c)), (2, .int (nI d))]) hx hb dX4_link_21 rfl hl (by decide) rfl (fun ls hl => ?_)
  refine lv_aload_n hx hb dX4_link_22 rfl (lv_at hl 1 rfl) ?_
  refine lv_iload_n hx hb dX4_link_23 rfl (lv_at hl 0 rfl) ?_
  refine r_ifneN (a := 1) (tgt := 31) hx hb (by omega) dX4_link_24 (by decide) (fun _ => ?_) (fun h => absurd h (by omega))
  refine lv_iload_n hx hb dX4_link_31 rfl (lv_at hl 2 rfl) ?_
  refine lv_iload_n hx hb dX4_link_32 rfl (lv_at hl 3 rfl) ?_
  refine r_cneN (a := c) (b := d) (tgt := 40) hx hb (by omega) (by omega) dX4_link_33 (by decide) (fun _ => ?_) (fun h => absurd h (by omega))
  refine lv_aload_n hx hb dX4_link_40 rfl (lv_at hl 1 rfl) ?_
  refine r_get (C := RX4) (T := TX4) (M := 9) (index := 19) (fd := "links") (fo := "[I") hx hb hts (by decide +kernel) hown hK hP 0 (by decide) mF_0 rfl 4 (by decide) rfl (by decide +kernel) rfl dX4_link_41 ?_
  refine lv_iload_n hx hb dX4_link_44 rfl (lv_at hl 2 rfl) ?_
  refine r_iald hx hb hK hP 4 0 (by omega) (mF_a 4 (by omega)) rfl (i := c) (by omega) (by decide) dX4_link_45 ?_
  refine lv_iload_n hx hb dX4_link_46 rfl (lv_at hl 3 rfl) ?_
  refine k_Ri (va_runS (As := [.int (y 4 c), .int (nI d)]) (rest := [.ref (ad 0)]) hF (c_X4_has l d (y 4 c) (by omega)) (va_cwS 2 hts gX4_link_X4_has rfl rfl rfl (by decide +kernel) ⟨(Nat.le_of_ble_eq_true rfl), (Nat.le_of_ble_eq_true rfl)⟩) k_preS rfl rfl hl.1 rfl (lv_room (Nat.le_of_ble_eq_true rfl)) dX4_link_47 ⟨Nat.zero_le _, Nat.zero_le _⟩) ?_
  refine r_topi (show bI (hasB (y 4 c) d) = bI false from congrArg bI (hlk)) ?_
  refine r_ifeqB (b := false) (tgt := 57) hx hb dX4_link_50 (by decide) (fun _ => ?_) (fun h => absurd h (by decide))
  refine lv_iconst (v := nI 0) hx hb dX4_link_57 (by decide) ?_
  refine k_Wi (va_runV (As := [.int (nI 0)]) (rest := []) hF (c_X4_isFine_0 l D cI cA ad th n y) (cwV 1 hts gX4_link_X4_isFine rfl rfl rfl (by decide +kernel) ⟨(Nat.le_of_ble_eq_true rfl), (Nat.le_of_ble_eq_true rfl)⟩) (k_pre hP hK hD hT (k := 0) (by decide) mF_0 rfl) rfl rfl hl.1 rfl (lv_room (Nat.le_of_ble_eq_true rfl)) dX4_link_58 ⟨Nat.zero_le _, Nat.zero_le _⟩) hD hS (fun H locs hP hS => ?_)
  refine r_ifneB (b := true) (tgt := 66) hx hb dX4_link_61 (by decide) (fun _ => ?_) (fun h => absurd h (by decide))
  refine lv_aload_n hx hb dX4_link_66 rfl (lv_at hl 1 rfl) ?_
  refine r_get (C := RX4) (T := TX4) (M := 9) (index := 19) (fd := "links") (fo := "[I") hx hb hts (by decide +kernel) hown hK hP 0 (by decide) mF_0 rfl 4 (by decide) rfl (by decide +kernel) rfl dX4_link_67 ?_
  refine lv_iload_n hx hb dX4_link_70 rfl (lv_at hl 2 rfl) ?_
  refine lv_dup2_11 hx hb dX4_link_71 rfl rfl ?_
  refine r_iald hx hb hK hP 4 0 (by omega) (mF_a 4 (by omega)) rfl (i := c) (by omega) (by decide) dX4_link_72 ?_
  refine lv_iconst (v := nI 1) hx hb dX4_link_73 (by decide) ?_
  refine lv_iload_n hx hb dX4_link_74 rfl (lv_at hl 3 rfl) ?_
  refine r_bit hx hb dX4_link_75 ?_
  refine lv_ior hx hb dX4_link_76 ?_
  refine r_iast (f' := mF cI ad (nI 0) n (up2 y 4 c ((y 4 c) ||| (bit d)))) hx hb hK hP hD hS 4 0 (by omega) (mF_a 4 (by omega)) rfl (i := c) (by omega) (by decide) (mF_up (mF_a 4 (by omega)) (by decide)) dX4_link_77 (fun H locs hP hS => ?_)
  refine lv_aload_n hx hb dX4_link_78 rfl (lv_at hl 1 rfl) ?_
  refine r_get (C := RX4) (T := TX4) (M := 9) (index := 19) (fd := "links") (fo := "[I") hx hb hts (by decide +kernel) hown hK hP 0 (by decide) mF_0 rfl 4 (by decide) rfl (by decide +kernel) rfl dX4_link_79 ?_
  refine lv_iload_n hx hb dX4_link_82 rfl (lv_at hl 3 rfl) ?_
  refine lv_dup2_11 hx hb dX4_link_83 rfl rfl ?_
  refine r_iald hx hb hK hP 4 0 (by omega) (mF_a 4 (by omega)) rfl (i := d) (by omega) (by decide) dX4_link_84 ?_
  refine lv_iconst (v := nI 1) hx hb dX4_link_85 (by decide) ?_
  refine lv_iload_n hx hb dX4_link_86 rfl (lv_at hl 2 rfl) ?_
  refine r_bit hx hb dX4_link_87 ?_
  refine lv_ior hx hb dX4_link_88 ?_
  refine r_iast (f' := mF cI ad (nI 0) n (up2 (up2 y 4 c ((y 4 c) ||| (bit d))) 4 d (((up2 y 4 c ((y 4 c) ||| (bit d))) 4 d) ||| (bit c)))) hx hb hK hP hD hS 4 0 (by omega) (mF_a 4 (by omega)) rfl (i := d) (by omega) (by decide) (mF_up (mF_a 4 (by omega)) (by decide)) dX4_link_89 (fun H locs hP hS => ?_)
  refine lv_aload_n hx hb dX4_link_90 rfl (lv_at hl 1 rfl) ?_
  refine lv_iload_n hx hb dX4_link_91 rfl (lv_at hl 2 rfl) ?_
  refine k_Ri (va_runV (As := [.int (nI c)]) (rest := []) hF (c_X4_groupOf l D cI cA ad (nI 0) n (up2 (up2 y 4 c ((y 4 c) ||| (bit d))) 4 d (((up2 y 4 c ((y 4 c) ||| (bit d))) 4 d) ||| (bit c))) c r hc hn hg) (cwV 1 hts gX4_link_X4_groupOf rfl rfl rfl (by decide +kernel) ⟨(Nat.le_of_ble_eq_true rfl), (Nat.le_of_ble_eq_true rfl)⟩) (k_pre hP hK hD hT (k := 0) (by decide) mF_0 rfl) rfl rfl hl.1 rfl (lv_room (Nat.le_of_ble_eq_true rfl)) dX4_link_92 ⟨Nat.zero_le _, Nat.zero_le _⟩) ?_
  refine k_Ri (va_runS (As := [.int r]) (rest := []) hF (c_X4_count l r) (va_cwS 1 hts gX4_link_X4_count rfl rfl rfl (by decide +kernel) ⟨(Nat.le_of_ble_eq_true rfl), (Nat.le_of_ble_eq_true rfl)⟩) k_preS rfl rfl hl.1 rfl (lv_room (Nat.le_of_ble_eq_true rfl)) dX4_link_95 ⟨Nat.zero_le _, Nat.zero_le _⟩) ?_
  exact hret _ _ _ _ _ _ hP hS dX4_link_98 (rfl) (rfl)
set_option maxHeartbeats 4000000 in
set_option maxRecDepth 100000 in
theorem m_link_1 (l : Launch) (D : va_G) (cI : ClassId) (cA : ClassId) (ad : Nat → Nat) (th : Int32) (n : Nat) (y : Nat → Nat → Int32) (a : Int32) (b : Int32) (hn : n ≤ 24) (hbad : (cardB n a && cardB n b) = false) : Met l yX4_link wsX4_link ({ frames := 2, cells := 0, slots := 0, locals := 43 }) (va_Pc [.ref (ad 0), .int a, .int b] (mX D cI cA ad th n y)) (qW D ad (mF cI ad (nI 1) n y) 8 (some (.int (nI 0)))) 0 0 (wA ad 8) := by
  refine c_ofW (cc := cX4_link) (maxL := 4) (ret := .int) (by decide) rfl rfl (Nat.le_of_ble_eq_true rfl) ?_
  intro p e s m av below meth cd Q hx hb hF hP hK hD hT hret ls hl
  have hown : s.vm.findClass RX4 = some m.cls := hF.2.2.2.1
  have hF : CallFix p m cd cX4_link 4 s av wsX4_link RX4 := hF
  have hts := hF.2.2.2.2
  have hl : lv_has ls 4 [(0, .ref (ad 0)), (1, .int a), (2, .int b)] := hl
  obtain ⟨H, eH⟩ : ∃ H9 : Heap, H9 = s.heap := ⟨_, rfl⟩
  obtain ⟨locs, eL⟩ : ∃ L9 : List Loc, L9 = [] := ⟨_, rfl⟩
  have hS : sS (wA ad 8) s.heap H locs := by rw [eH, eL]; exact sS.rf
  rw [← eH] at hP
  suffices hgo : W p l e ({ frames := 2, cells := 0, slots := 0, locals := 43 }) s m av below meth cd H locs 0 0 Q (F0 m 0 ls []) by rw [eH, eL] at hgo; exact hgo
  clear eH eL
  refine lv_aload_n hx hb dX4_link_0 rfl (lv_at hl 0 rfl) ?_
  refine lv_iload_n hx hb dX4_link_1 rfl (lv_at hl 1 rfl) ?_
  refine k_Ri (va_runV (As := [.int a]) (rest := []) hF (c_X4_isCard l D cI cA ad th n y a hn) (cwV 1 hts gX4_link_X4_isCard rfl rfl rfl (by decide +kernel) ⟨(Nat.le_of_ble_eq_true rfl), (Nat.le_of_ble_eq_true rfl)⟩) (k_pre hP hK hD hT (k := 0) (by decide) mF_0 rfl) rfl rfl hl.1 rfl (lv_room (Nat.le_of_ble_eq_true rfl)) dX4_link_2 ⟨Nat.zero_le _, Nat.zero_le _⟩) ?_
  have hJ21 : ∀ (H : Heap) (locs : List Loc), va_P D vwCl (wl ad (mF cI ad th n y) 8) H → sS (wA ad 8) s.heap H locs → ∀ ls : Array Slot, lv_has ls 4 [(0, .ref (ad 0)), (1, .int a), (2, .int b)] → W p l e ({ frames := 2, cells := 0, slots := 0, locals := 43 }) s m av below meth cd H locs 0 0 Q (F0 m 21 ls [.int (bI (cardB n a && cardB n b))]) := by
    intro H locs hP hS ls hl
    refine lv_istore_n (lv' := [(3, .int (bI (cardB n a && cardB n b))), (0, .ref (ad 0)), (1, .int a), (2, .int b)]) hx hb dX4_link_21 rfl hl (by decide) rfl (fun ls hl => ?_)
    refine lv_aload_n hx hb dX4_link_22 rfl (lv_at hl 1 rfl) ?_
    refine lv_iload_n hx hb dX4_link_23 rfl (lv_at hl 0 rfl) ?_
    refine r_ifneB (b := cardB n a && cardB n b) (tgt := 31) hx hb dX4_link_24 (by decide) (fun h => absurd (h.symm.trans hbad) (by decide)) (fun _ => ?_)
    refine lv_iconst (v := nI 1) hx hb dX4_link_27 (by decide) ?_
    refine lv_goto (tgt := 58) hx hb dX4_link_28 (by decide) ?_
    refine k_Wi (va_runV (As := [.int (nI 1)]) (rest := []) hF (c_X4_isFine_1 l D cI cA ad th n y) (cwV 1 hts gX4_link_X4_isFine rfl rfl rfl (by decide +kernel) ⟨(Nat.le_of_ble_eq_true rfl), (Nat.le_of_ble_eq_true rfl)⟩) (k_pre hP hK hD hT (k := 0) (by decide) mF_0 rfl) rfl rfl hl.1 rfl (lv_room (Nat.le_of_ble_eq_true rfl)) dX4_link_58 ⟨Nat.zero_le _, Nat.zero_le _⟩) hD hS (fun H locs hP hS => ?_)
    refine r_ifneB (b := false) (tgt := 66) hx hb dX4_link_61 (by decide) (fun h => absurd h (by decide)) (fun _ => ?_)
    refine lv_iconst (v := nI 0) hx hb dX4_link_64 (by decide) ?_
    exact hret _ _ _ _ _ _ hP hS dX4_link_65 (rfl) (rfl)
  refine r_ifeqB (b := cardB n a) (tgt := 20) hx hb dX4_link_5 (by decide) (fun h5_3 => ?_) (fun h5_3 => ?_)
  · refine lv_iconst (v := nI 0) hx hb dX4_link_20 (by decide) ?_
    refine r_topi (show (nI 0 : Int32) = bI (cardB n a && cardB n b) from by simp [bI, h5_3]) ?_
    exact hJ21 _ _ hP hS _ (lv_sub hl [0, 1, 2] rfl)
  · refine lv_aload_n hx hb dX4_link_8 rfl (lv_at hl 0 rfl) ?_
    refine lv_iload_n hx hb dX4_link_9 rfl (lv_at hl 2 rfl) ?_
    refine k_Ri (va_runV (As := [.int b]) (rest := []) hF (c_X4_isCard l D cI cA ad th n y b hn) (cwV 1 hts gX4_link_X4_isCard rfl rfl rfl (by decide +kernel) ⟨(Nat.le_of_ble_eq_true rfl), (Nat.le_of_ble_eq_true rfl)⟩) (k_pre hP hK hD hT (k := 0) (by decide) mF_0 rfl) rfl rfl hl.1 rfl (lv_room (Nat.le_of_ble_eq_true rfl)) dX4_link_10 ⟨Nat.zero_le _, Nat.zero_le _⟩) ?_
    refine r_ifeqB (b := cardB n b) (tgt := 20) hx hb dX4_link_13 (by decide) (fun h13_4 => ?_) (fun h13_4 => ?_)
    · refine lv_iconst (v := nI 0) hx hb dX4_link_20 (by decide) ?_
      refine r_topi (show (nI 0 : Int32) = bI (cardB n a && cardB n b) from by simp [bI, h5_3, h13_4]) ?_
      exact hJ21 _ _ hP hS _ (lv_sub hl [0, 1, 2] rfl)
    · refine lv_iconst (v := nI 1) hx hb dX4_link_16 (by decide) ?_
      refine lv_goto (tgt := 21) hx hb dX4_link_17 (by decide) ?_
      refine r_topi (show (nI 1 : Int32) = bI (cardB n a && cardB n b) from by simp [bI, h5_3, h13_4]) ?_
      exact hJ21 _ _ hP hS _ (lv_sub hl [0, 1, 2] rfl)
set_option maxHeartbeats 4000000 in
set_option maxRecDepth 100000 in
theorem m_link_2 (l : Launch) (D : va_G) (cI : ClassId) (cA : ClassId) (ad : Nat → Nat) (th : Int32) (n : Nat) (y : Nat → Nat → Int32) (c : Nat) (hc : c < n) (hn : n ≤ 24) : Met l yX4_link wsX4_link ({ frames := 2, cells := 0, slots := 0, locals := 43 }) (va_Pc [.ref (ad 0), .int (nI c), .int (nI c)] (mX D cI cA ad th n y)) (qW D ad (mF cI ad (nI 2) n y) 8 (some (.int (nI 0)))) 0 0 (wA ad 8) := by
  refine c_ofW (cc := cX4_link) (maxL := 4) (ret := .int) (by decide) rfl rfl (Nat.le_of_ble_eq_true rfl) ?_
  intro p e s m av below meth cd Q hx hb hF hP hK hD hT hret ls hl
  have hown : s.vm.findClass RX4 = some m.cls := hF.2.2.2.1
  have hF : CallFix p m cd cX4_link 4 s av wsX4_link RX4 := hF
  have hts := hF.2.2.2.2
  have hl : lv_has ls 4 [(0, .ref (ad 0)), (1, .int (nI c)), (2, .int (nI c))] := hl
  obtain ⟨H, eH⟩ : ∃ H9 : Heap, H9 = s.heap := ⟨_, rfl⟩
  obtain ⟨locs, eL⟩ : ∃ L9 : List Loc, L9 = [] := ⟨_, rfl⟩
  have hS : sS (wA ad 8) s.heap H locs := by rw [eH, eL]; exact sS.rf
  rw [← eH] at hP
  suffices hgo : W p l e ({ frames := 2, cells := 0, slots := 0, locals := 43 }) s m av below meth cd H locs 0 0 Q (F0 m 0 ls []) by rw [eH, eL] at hgo; exact hgo
  clear eH eL
  refine lv_aload_n hx hb dX4_link_0 rfl (lv_at hl 0 rfl) ?_
  refine lv_iload_n hx hb dX4_link_1 rfl (lv_at hl 1 rfl) ?_
  refine k_Ri (va_runV (As := [.int (nI c)]) (rest := []) hF (c_X4_isCard l D cI cA ad th n y (nI c) hn) (cwV 1 hts gX4_link_X4_isCard rfl rfl rfl (by decide +kernel) ⟨(Nat.le_of_ble_eq_true rfl), (Nat.le_of_ble_eq_true rfl)⟩) (k_pre hP hK hD hT (k := 0) (by decide) mF_0 rfl) rfl rfl hl.1 rfl (lv_room (Nat.le_of_ble_eq_true rfl)) dX4_link_2 ⟨Nat.zero_le _, Nat.zero_le _⟩) ?_
  refine r_topi (show bI (cardB n (nI c)) = bI true from congrArg bI (cardB_ok hc hn)) ?_
  refine r_ifeqB (b := true) (tgt := 20) hx hb dX4_link_5 (by decide) (fun h => absurd h (by decide)) (fun _ => ?_)
  refine lv_aload_n hx hb dX4_link_8 rfl (lv_at hl 0 rfl) ?_
  refine lv_iload_n hx hb dX4_link_9 rfl (lv_at hl 2 rfl) ?_
  refine k_Ri (va_runV (As := [.int (nI c)]) (rest := []) hF (c_X4_isCard l D cI cA ad th n y (nI c) hn) (cwV 1 hts gX4_link_X4_isCard rfl rfl rfl (by decide +kernel) ⟨(Nat.le_of_ble_eq_true rfl), (Nat.le_of_ble_eq_true rfl)⟩) (k_pre hP hK hD hT (k := 0) (by decide) mF_0 rfl) rfl rfl hl.1 rfl (lv_room (Nat.le_of_ble_eq_true rfl)) dX4_link_10 ⟨Nat.zero_le _, Nat.zero_le _⟩) ?_
  refine r_topi (show bI (cardB n (nI c)) = bI true from congrArg bI (cardB_ok hc hn)) ?_
  refine r_ifeqB (b := true) (tgt := 20) hx hb dX4_link_13 (by decide) (fun h => absurd h (by decide)) (fun _ => ?_)
  refine lv_iconst (v := nI 1) hx hb dX4_link_16 (by decide) ?_
  refine lv_goto (tgt := 21) hx hb dX4_link_17 (by decide) ?_
  refine lv_istore_n (lv' := [(3, .int (nI 1)), (0, .ref (ad 0)), (1, .int (nI c)), (2, .int (nI c))]) hx hb dX4_link_21 rfl hl (by decide) rfl (fun ls hl => ?_)
  refine lv_aload_n hx hb dX4_link_22 rfl (lv_at hl 1 rfl) ?_
  refine lv_iload_n hx hb dX4_link_23 rfl (lv_at hl 0 rfl) ?_
  refine r_ifneN (a := 1) (tgt := 31) hx hb (by omega) dX4_link_24 (by decide) (fun _ => ?_) (fun h => absurd h (by omega))
  refine lv_iload_n hx hb dX4_link_31 rfl (lv_at hl 2 rfl) ?_
  refine lv_iload_n hx hb dX4_link_32 rfl (lv_at hl 3 rfl) ?_
  refine r_cneN (a := c) (b := c) (tgt := 40) hx hb (by omega) (by omega) dX4_link_33 (by decide) (fun h => absurd h (by omega)) (fun _ => ?_)
  refine lv_iconst (v := nI 2) hx hb dX4_link_36 (by decide) ?_
  refine lv_goto (tgt := 58) hx hb dX4_link_37 (by decide) ?_
  refine k_Wi (va_runV (As := [.int (nI 2)]) (rest := []) hF (c_X4_isFine_2 l D cI cA ad th n y) (cwV 1 hts gX4_link_X4_isFine rfl rfl rfl (by decide +kernel) ⟨(Nat.le_of_ble_eq_true rfl), (Nat.le_of_ble_eq_true rfl)⟩) (k_pre hP hK hD hT (k := 0) (by decide) mF_0 rfl) rfl rfl hl.1 rfl (lv_room (Nat.le_of_ble_eq_true rfl)) dX4_link_58 ⟨Nat.zero_le _, Nat.zero_le _⟩) hD hS (fun H locs hP hS => ?_)
  refine r_ifneB (b := false) (tgt := 66) hx hb dX4_link_61 (by decide) (fun h => absurd h (by decide)) (fun _ => ?_)
  refine lv_iconst (v := nI 0) hx hb dX4_link_64 (by decide) ?_
  exact hret _ _ _ _ _ _ hP hS dX4_link_65 (rfl) (rfl)
set_option maxHeartbeats 4000000 in
set_option maxRecDepth 100000 in
theorem m_link_3 (l : Launch) (D : va_G) (cI : ClassId) (cA : ClassId) (ad : Nat → Nat) (th : Int32) (n : Nat) (y : Nat → Nat → Int32) (c : Nat) (d : Nat) (hc : c < n) (hd : d < n) (hne : c ≠ d) (hn : n ≤ 24) (hlk : hasB (y 4 c) d = true) : Met l yX4_link wsX4_link ({ frames := 2, cells := 0, slots := 0, locals := 43 }) (va_Pc [.ref (ad 0), .int (nI c), .int (nI d)] (mX D cI cA ad th n y)) (qW D ad (mF cI ad (nI 3) n y) 8 (some (.int (nI 0)))) 0 0 (wA ad 8) := by
  refine c_ofW (cc := cX4_link) (maxL := 4) (ret := .int) (by decide) rfl rfl (Nat.le_of_ble_eq_true rfl) ?_
  intro p e s m av below meth cd Q hx hb hF hP hK hD hT hret ls hl
  have hown : s.vm.findClass RX4 = some m.cls := hF.2.2.2.1
  have hF : CallFix p m cd cX4_link 4 s av wsX4_link RX4 := hF
  have hts := hF.2.2.2.2
  have hl : lv_has ls 4 [(0, .ref (ad 0)), (1, .int (nI c)), (2, .int (nI d))] := hl
  obtain ⟨H, eH⟩ : ∃ H9 : Heap, H9 = s.heap := ⟨_, rfl⟩
  obtain ⟨locs, eL⟩ : ∃ L9 : List Loc, L9 = [] := ⟨_, rfl⟩
  have hS : sS (wA ad 8) s.heap H locs := by rw [eH, eL]; exact sS.rf
  rw [← eH] at hP
  suffices hgo : W p l e ({ frames := 2, cells := 0, slots := 0, locals := 43 }) s m av below meth cd H locs 0 0 Q (F0 m 0 ls []) by rw [eH, eL] at hgo; exact hgo
  clear eH eL
  refine lv_aload_n hx hb dX4_link_0 rfl (lv_at hl 0 rfl) ?_
  refine lv_iload_n hx hb dX4_link_1 rfl (lv_at hl 1 rfl) ?_
  refine k_Ri (va_runV (As := [.int (nI c)]) (rest := []) hF (c_X4_isCard l D cI cA ad th n y (nI c) hn) (cwV 1 hts gX4_link_X4_isCard rfl rfl rfl (by decide +kernel) ⟨(Nat.le_of_ble_eq_true rfl), (Nat.le_of_ble_eq_true rfl)⟩) (k_pre hP hK hD hT (k := 0) (by decide) mF_0 rfl) rfl rfl hl.1 rfl (lv_room (Nat.le_of_ble_eq_true rfl)) dX4_link_2 ⟨Nat.zero_le _, Nat.zero_le _⟩) ?_
  refine r_topi (show bI (cardB n (nI c)) = bI true from congrArg bI (cardB_ok hc hn)) ?_
  refine r_ifeqB (b := true) (tgt := 20) hx hb dX4_link_5 (by decide) (fun h => absurd h (by decide)) (fun _ => ?_)
  refine lv_aload_n hx hb dX4_link_8 rfl (lv_at hl 0 rfl) ?_
  refine lv_iload_n hx hb dX4_link_9 rfl (lv_at hl 2 rfl) ?_
  refine k_Ri (va_runV (As := [.int (nI d)]) (rest := []) hF (c_X4_isCard l D cI cA ad th n y (nI d) hn) (cwV 1 hts gX4_link_X4_isCard rfl rfl rfl (by decide +kernel) ⟨(Nat.le_of_ble_eq_true rfl), (Nat.le_of_ble_eq_true rfl)⟩) (k_pre hP hK hD hT (k := 0) (by decide) mF_0 rfl) rfl rfl hl.1 rfl (lv_room (Nat.le_of_ble_eq_true rfl)) dX4_link_10 ⟨Nat.zero_le _, Nat.zero_le _⟩) ?_
  refine r_topi (show bI (cardB n (nI d)) = bI true from congrArg bI (cardB_ok hd hn)) ?_
  refine r_ifeqB (b := true) (tgt := 20) hx hb dX4_link_13 (by decide) (fun h => absurd h (by decide)) (fun _ => ?_)
  refine lv_iconst (v := nI 1) hx hb dX4_link_16 (by decide) ?_
  refine lv_goto (tgt := 21) hx hb dX4_link_17 (by decide) ?_
  refine lv_istore_n (lv' := [(3, .int (nI 1)), (0, .ref (ad 0)), (1, .int (nI c)), (2, .int (nI d))]) hx hb dX4_link_21 rfl hl (by decide) rfl (fun ls hl => ?_)
  refine lv_aload_n hx hb dX4_link_22 rfl (lv_at hl 1 rfl) ?_
  refine lv_iload_n hx hb dX4_link_23 rfl (lv_at hl 0 rfl) ?_
  refine r_ifneN (a := 1) (tgt := 31) hx hb (by omega) dX4_link_24 (by decide) (fun _ => ?_) (fun h => absurd h (by omega))
  refine lv_iload_n hx hb dX4_link_31 rfl (lv_at hl 2 rfl) ?_
  refine lv_iload_n hx hb dX4_link_32 rfl (lv_at hl 3 rfl) ?_
  refine r_cneN (a := c) (b := d) (tgt := 40) hx hb (by omega) (by omega) dX4_link_33 (by decide) (fun _ => ?_) (fun h => absurd h (by omega))
  refine lv_aload_n hx hb dX4_link_40 rfl (lv_at hl 1 rfl) ?_
  refine r_get (C := RX4) (T := TX4) (M := 9) (index := 19) (fd := "links") (fo := "[I") hx hb hts (by decide +kernel) hown hK hP 0 (by decide) mF_0 rfl 4 (by decide) rfl (by decide +kernel) rfl dX4_link_41 ?_
  refine lv_iload_n hx hb dX4_link_44 rfl (lv_at hl 2 rfl) ?_
  refine r_iald hx hb hK hP 4 0 (by omega) (mF_a 4 (by omega)) rfl (i := c) (by omega) (by decide) dX4_link_45 ?_
  refine lv_iload_n hx hb dX4_link_46 rfl (lv_at hl 3 rfl) ?_
  refine k_Ri (va_runS (As := [.int (y 4 c), .int (nI d)]) (rest := [.ref (ad 0)]) hF (c_X4_has l d (y 4 c) (by omega)) (va_cwS 2 hts gX4_link_X4_has rfl rfl rfl (by decide +kernel) ⟨(Nat.le_of_ble_eq_true rfl), (Nat.le_of_ble_eq_true rfl)⟩) k_preS rfl rfl hl.1 rfl (lv_room (Nat.le_of_ble_eq_true rfl)) dX4_link_47 ⟨Nat.zero_le _, Nat.zero_le _⟩) ?_
  refine r_topi (show bI (hasB (y 4 c) d) = bI true from congrArg bI (hlk)) ?_
  refine r_ifeqB (b := true) (tgt := 57) hx hb dX4_link_50 (by decide) (fun h => absurd h (by decide)) (fun _ => ?_)
  refine lv_iconst (v := nI 3) hx hb dX4_link_53 (by decide) ?_
  refine lv_goto (tgt := 58) hx hb dX4_link_54 (by decide) ?_
  refine k_Wi (va_runV (As := [.int (nI 3)]) (rest := []) hF (c_X4_isFine_3 l D cI cA ad th n y) (cwV 1 hts gX4_link_X4_isFine rfl rfl rfl (by decide +kernel) ⟨(Nat.le_of_ble_eq_true rfl), (Nat.le_of_ble_eq_true rfl)⟩) (k_pre hP hK hD hT (k := 0) (by decide) mF_0 rfl) rfl rfl hl.1 rfl (lv_room (Nat.le_of_ble_eq_true rfl)) dX4_link_58 ⟨Nat.zero_le _, Nat.zero_le _⟩) hD hS (fun H locs hP hS => ?_)
  refine r_ifneB (b := false) (tgt := 66) hx hb dX4_link_61 (by decide) (fun h => absurd h (by decide)) (fun _ => ?_)
  refine lv_iconst (v := nI 0) hx hb dX4_link_64 (by decide) ?_
  exact hret _ _ _ _ _ _ hP hS dX4_link_65 (rfl) (rfl)
set_option maxHeartbeats 4000000 in
set_option maxRecDepth 100000 in
theorem m_cut_0 (l : Launch) (D : va_G) (cI : ClassId) (cA : ClassId) (ad : Nat → Nat) (th : Int32) (n : Nat) (y : Nat → Nat → Int32) (c : Nat) (d : Nat) (r : Int32) (hc : c < n) (hd : d < n) (hn : n ≤ 24) (hlk : hasB (y 4 c) d = true) (hg : isGrp (mcut y c d 4) n c r) : Met l yX4_cut wsX4_cut ({ frames := 2, cells := 0, slots := 0, locals := 45 }) (va_Pc [.ref (ad 0), .int (nI c), .int (nI d)] (mX D cI cA ad th n y)) (qW D ad (mF cI ad (nI 0) n (mcut y c d)) 8 (some (.int (bI (hasB r d))))) 0 0 (wA ad 8) := by
  refine c_ofW (cc := cX4_cut) (maxL := 4) (ret := .boolean) (by decide) rfl (nar_bI _) (Nat.le_of_ble_eq_true rfl) ?_
  intro p e s m av below meth cd Q hx hb hF hP hK hD hT hret ls hl
  have hown : s.vm.findClass RX4 = some m.cls := hF.2.2.2.1
  have hF : CallFix p m cd cX4_cut 4 s av wsX4_cut RX4 := hF
  have hts := hF.2.2.2.2
  have hl : lv_has ls 4 [(0, .ref (ad 0)), (1, .int (nI c)), (2, .int (nI d))] := hl
  obtain ⟨H, eH⟩ : ∃ H9 : Heap, H9 = s.heap := ⟨_, rfl⟩
  obtain ⟨locs, eL⟩ : ∃ L9 : List Loc, L9 = [] := ⟨_, rfl⟩
  have hS : sS (wA ad 8) s.heap H locs := by rw [eH, eL]; exact sS.rf
  rw [← eH] at hP
  suffices hgo : W p l e ({ frames := 2, cells := 0, slots := 0, locals := 45 }) s m av below meth cd H locs 0 0 Q (F0 m 0 ls []) by rw [eH, eL] at hgo; exact hgo
  clear eH eL
  refine lv_aload_n hx hb dX4_cut_0 rfl (lv_at hl 0 rfl) ?_
  refine lv_iload_n hx hb dX4_cut_1 rfl (lv_at hl 1 rfl) ?_
  refine k_Ri (va_runV (As := [.int (nI c)]) (rest := []) hF (c_X4_isCard l D cI cA ad th n y (nI c) hn) (cwV 1 hts gX4_cut_X4_isCard rfl rfl rfl (by decide +kernel) ⟨(Nat.le_of_ble_eq_true rfl), (Nat.le_of_ble_eq_true rfl)⟩) (k_pre hP hK hD hT (k := 0) (by decide) mF_0 rfl) rfl rfl hl.1 rfl (lv_room (Nat.le_of_ble_eq_true rfl)) dX4_cut_2 ⟨Nat.zero_le _, Nat.zero_le _⟩) ?_
  refine r_topi (show bI (cardB n (nI c)) = bI true from congrArg bI (cardB_ok hc hn)) ?_
  refine r_ifeqB (b := true) (tgt := 20) hx hb dX4_cut_5 (by decide) (fun h => absurd h (by decide)) (fun _ => ?_)
  refine lv_aload_n hx hb dX4_cut_8 rfl (lv_at hl 0 rfl) ?_
  refine lv_iload_n hx hb dX4_cut_9 rfl (lv_at hl 2 rfl) ?_
  refine k_Ri (va_runV (As := [.int (nI d)]) (rest := []) hF (c_X4_isCard l D cI cA ad th n y (nI d) hn) (cwV 1 hts gX4_cut_X4_isCard rfl rfl rfl (by decide +kernel) ⟨(Nat.le_of_ble_eq_true rfl), (Nat.le_of_ble_eq_true rfl)⟩) (k_pre hP hK hD hT (k := 0) (by decide) mF_0 rfl) rfl rfl hl.1 rfl (lv_room (Nat.le_of_ble_eq_true rfl)) dX4_cut_10 ⟨Nat.zero_le _, Nat.zero_le _⟩) ?_
  refine r_topi (show bI (cardB n (nI d)) = bI true from congrArg bI (cardB_ok hd hn)) ?_
  refine r_ifeqB (b := true) (tgt := 20) hx hb dX4_cut_13 (by decide) (fun h => absurd h (by decide)) (fun _ => ?_)
  refine lv_iconst (v := nI 1) hx hb dX4_cut_16 (by decide) ?_
  refine lv_goto (tgt := 21) hx hb dX4_cut_17 (by decide) ?_
  refine lv_istore_n (lv' := [(3, .int (nI 1)), (0, .ref (ad 0)), (1, .int (nI c)), (2, .int (nI d))]) hx hb dX4_cut_21 rfl hl (by decide) rfl (fun ls hl => ?_)
  refine lv_aload_n hx hb dX4_cut_22 rfl (lv_at hl 1 rfl) ?_
  refine lv_iload_n hx hb dX4_cut_23 rfl (lv_at hl 0 rfl) ?_
  refine r_ifneN (a := 1) (tgt := 31) hx hb (by omega) dX4_cut_24 (by decide) (fun _ => ?_) (fun h => absurd h (by omega))
  refine lv_aload_n hx hb dX4_cut_31 rfl (lv_at hl 1 rfl) ?_
  refine r_get (C := RX4) (T := TX4) (M := 9) (index := 19) (fd := "links") (fo := "[I") hx hb hts (by decide +kernel) hown hK hP 0 (by decide) mF_0 rfl 4 (by decide) rfl (by decide +kernel) rfl dX4_cut_32 ?_
  refine lv_iload_n hx hb dX4_cut_35 rfl (lv_at hl 2 rfl) ?_
  refine r_iald hx hb hK hP 4 0 (by omega) (mF_a 4 (by omega)) rfl (i := c) (by omega) (by decide) dX4_cut_36 ?_
  refine lv_iload_n hx hb dX4_cut_37 rfl (lv_at hl 3 rfl) ?_
  refine k_Ri (va_runS (As := [.int (y 4 c), .int (nI d)]) (rest := [.ref (ad 0)]) hF (c_X4_has l d (y 4 c) (by omega)) (va_cwS 2 hts gX4_cut_X4_has rfl rfl rfl (by decide +kernel) ⟨(Nat.le_of_ble_eq_true rfl), (Nat.le_of_ble_eq_true rfl)⟩) k_preS rfl rfl hl.1 rfl (lv_room (Nat.le_of_ble_eq_true rfl)) dX4_cut_38 ⟨Nat.zero_le _, Nat.zero_le _⟩) ?_
  refine r_topi (show bI (hasB (y 4 c) d) = bI true from congrArg bI (hlk)) ?_
  refine r_ifneB (b := true) (tgt := 48) hx hb dX4_cut_41 (by decide) (fun _ => ?_) (fun h => absurd h (by decide))
  refine lv_iconst (v := nI 0) hx hb dX4_cut_48 (by decide) ?_
  refine k_Wi (va_runV (As := [.int (nI 0)]) (rest := []) hF (c_X4_isFine_0 l D cI cA ad th n y) (cwV 1 hts gX4_cut_X4_isFine rfl rfl rfl (by decide +kernel) ⟨(Nat.le_of_ble_eq_true rfl), (Nat.le_of_ble_eq_true rfl)⟩) (k_pre hP hK hD hT (k := 0) (by decide) mF_0 rfl) rfl rfl hl.1 rfl (lv_room (Nat.le_of_ble_eq_true rfl)) dX4_cut_49 ⟨Nat.zero_le _, Nat.zero_le _⟩) hD hS (fun H locs hP hS => ?_)
  refine r_ifneB (b := true) (tgt := 57) hx hb dX4_cut_52 (by decide) (fun _ => ?_) (fun h => absurd h (by decide))
  refine lv_aload_n hx hb dX4_cut_57 rfl (lv_at hl 1 rfl) ?_
  refine r_get (C := RX4) (T := TX4) (M := 9) (index := 19) (fd := "links") (fo := "[I") hx hb hts (by decide +kernel) hown hK hP 0 (by decide) mF_0 rfl 4 (by decide) rfl (by decide +kernel) rfl dX4_cut_58 ?_
  refine lv_iload_n hx hb dX4_cut_61 rfl (lv_at hl 2 rfl) ?_
  refine lv_dup2_11 hx hb dX4_cut_62 rfl rfl ?_
  refine r_iald hx hb hK hP 4 0 (by omega) (mF_a 4 (by omega)) rfl (i := c) (by omega) (by decide) dX4_cut_63 ?_
  refine lv_iconst (v := nI 1) hx hb dX4_cut_64 (by decide) ?_
  refine lv_iload_n hx hb dX4_cut_65 rfl (lv_at hl 3 rfl) ?_
  refine r_bit hx hb dX4_cut_66 ?_
  refine lv_iconst (v := (-1)) hx hb dX4_cut_67 (by decide) ?_
  refine lv_ixor hx hb dX4_cut_68 ?_
  refine lv_iand hx hb dX4_cut_69 ?_
  refine r_iast (f' := mF cI ad (nI 0) n (up2 y 4 c ((y 4 c) &&& ((bit d) ^^^ ((-1)))))) hx hb hK hP hD hS 4 0 (by omega) (mF_a 4 (by omega)) rfl (i := c) (by omega) (by decide) (mF_up (mF_a 4 (by omega)) (by decide)) dX4_cut_70 (fun H locs hP hS => ?_)
  refine lv_aload_n hx hb dX4_cut_71 rfl (lv_at hl 1 rfl) ?_
  refine r_get (C := RX4) (T := TX4) (M := 9) (index := 19) (fd := "links") (fo := "[I") hx hb hts (by decide +kernel) hown hK hP 0 (by decide) mF_0 rfl 4 (by decide) rfl (by decide +kernel) rfl dX4_cut_72 ?_
  refine lv_iload_n hx hb dX4_cut_75 rfl (lv_at hl 3 rfl) ?_
  refine lv_dup2_11 hx hb dX4_cut_76 rfl rfl ?_
  refine r_iald hx hb hK hP 4 0 (by omega) (mF_a 4 (by omega)) rfl (i := d) (by omega) (by decide) dX4_cut_77 ?_
  refine lv_iconst (v := nI 1) hx hb dX4_cut_78 (by decide) ?_
  refine lv_iload_n hx hb dX4_cut_79 rfl (lv_at hl 2 rfl) ?_
  refine r_bit hx hb dX4_cut_80 ?_
  refine lv_iconst (v := (-1)) hx hb dX4_cut_81 (by decide) ?_
  refine lv_ixor hx hb dX4_cut_82 ?_
  refine lv_iand hx hb dX4_cut_83 ?_
  refine r_iast (f' := mF cI ad (nI 0) n (up2 (up2 y 4 c ((y 4 c) &&& ((bit d) ^^^ ((-1))))) 4 d (((up2 y 4 c ((y 4 c) &&& ((bit d) ^^^ ((-1))))) 4 d) &&& ((bit c) ^^^ ((-1)))))) hx hb hK hP hD hS 4 0 (by omega) (mF_a 4 (by omega)) rfl (i := d) (by omega) (by decide) (mF_up (mF_a 4 (by omega)) (by decide)) dX4_cut_84 (fun H locs hP hS => ?_)
  refine lv_aload_n hx hb dX4_cut_85 rfl (lv_at hl 1 rfl) ?_
  refine lv_iload_n hx hb dX4_cut_86 rfl (lv_at hl 2 rfl) ?_
  refine k_Ri (va_runV (As := [.int (nI c)]) (rest := []) hF (c_X4_groupOf l D cI cA ad (nI 0) n (up2 (up2 y 4 c ((y 4 c) &&& ((bit d) ^^^ ((-1))))) 4 d (((up2 y 4 c ((y 4 c) &&& ((bit d) ^^^ ((-1))))) 4 d) &&& ((bit c) ^^^ ((-1))))) c r hc hn hg) (cwV 1 hts gX4_cut_X4_groupOf rfl rfl rfl (by decide +kernel) ⟨(Nat.le_of_ble_eq_true rfl), (Nat.le_of_ble_eq_true rfl)⟩) (k_pre hP hK hD hT (k := 0) (by decide) mF_0 rfl) rfl rfl hl.1 rfl (lv_room (Nat.le_of_ble_eq_true rfl)) dX4_cut_87 ⟨Nat.zero_le _, Nat.zero_le _⟩) ?_
  refine lv_iload_n hx hb dX4_cut_90 rfl (lv_at hl 3 rfl) ?_
  refine k_Ri (va_runS (As := [.int r, .int (nI d)]) (rest := []) hF (c_X4_has l d r (by omega)) (va_cwS 2 hts gX4_cut_X4_has rfl rfl rfl (by decide +kernel) ⟨(Nat.le_of_ble_eq_true rfl), (Nat.le_of_ble_eq_true rfl)⟩) k_preS rfl rfl hl.1 rfl (lv_room (Nat.le_of_ble_eq_true rfl)) dX4_cut_91 ⟨Nat.zero_le _, Nat.zero_le _⟩) ?_
  exact hret _ _ _ _ _ _ hP hS dX4_cut_94 (rfl) (rfl)
set_option maxHeartbeats 4000000 in
set_option maxRecDepth 100000 in
theorem m_cut_1 (l : Launch) (D : va_G) (cI : ClassId) (cA : ClassId) (ad : Nat → Nat) (th : Int32) (n : Nat) (y : Nat → Nat → Int32) (a : Int32) (b : Int32) (hn : n ≤ 24) (hbad : (cardB n a && cardB n b) = false) : Met l yX4_cut wsX4_cut ({ frames := 2, cells := 0, slots := 0, locals := 43 }) (va_Pc [.ref (ad 0), .int a, .int b] (mX D cI cA ad th n y)) (qW D ad (mF cI ad (nI 1) n y) 8 (some (.int (bI false)))) 0 0 (wA ad 8) := by
  refine c_ofW (cc := cX4_cut) (maxL := 4) (ret := .boolean) (by decide) rfl (nar_bI _) (Nat.le_of_ble_eq_true rfl) ?_
  intro p e s m av below meth cd Q hx hb hF hP hK hD hT hret ls hl
  have hown : s.vm.findClass RX4 = some m.cls := hF.2.2.2.1
  have hF : CallFix p m cd cX4_cut 4 s av wsX4_cut RX4 := hF
  have hts := hF.2.2.2.2
  have hl : lv_has ls 4 [(0, .ref (ad 0)), (1, .int a), (2, .int b)] := hl
  obtain ⟨H, eH⟩ : ∃ H9 : Heap, H9 = s.heap := ⟨_, rfl⟩
  obtain ⟨locs, eL⟩ : ∃ L9 : List Loc, L9 = [] := ⟨_, rfl⟩
  have hS : sS (wA ad 8) s.heap H locs := by rw [eH, eL]; exact sS.rf
  rw [← eH] at hP
  suffices hgo : W p l e ({ frames := 2, cells := 0, slots := 0, locals := 43 }) s m av below meth cd H locs 0 0 Q (F0 m 0 ls []) by rw [eH, eL] at hgo; exact hgo
  clear eH eL
  refine lv_aload_n hx hb dX4_cut_0 rfl (lv_at hl 0 rfl) ?_
  refine lv_iload_n hx hb dX4_cut_1 rfl (lv_at hl 1 rfl) ?_
  refine k_Ri (va_runV (As := [.int a]) (rest := []) hF (c_X4_isCard l D cI cA ad th n y a hn) (cwV 1 hts gX4_cut_X4_isCard rfl rfl rfl (by decide +kernel) ⟨(Nat.le_of_ble_eq_true rfl), (Nat.le_of_ble_eq_true rfl)⟩) (k_pre hP hK hD hT (k := 0) (by decide) mF_0 rfl) rfl rfl hl.1 rfl (lv_room (Nat.le_of_ble_eq_true rfl)) dX4_cut_2 ⟨Nat.zero_le _, Nat.zero_le _⟩) ?_
  have hJ21 : ∀ (H : Heap) (locs : List Loc), va_P D vwCl (wl ad (mF cI ad th n y) 8) H → sS (wA ad 8) s.heap H locs → ∀ ls : Array Slot, lv_has ls 4 [(0, .ref (ad 0)), (1, .int a), (2, .int b)] → W p l e ({ frames := 2, cells := 0, slots := 0, locals := 43 }) s m av below meth cd H locs 0 0 Q (F0 m 21 ls [.int (bI (cardB n a && cardB n b))]) := by
    intro H locs hP hS ls hl
    refine lv_istore_n (lv' := [(3, .int (bI (cardB n a && cardB n b))), (0, .ref (ad 0)), (1, .int a), (2, .int b)]) hx hb dX4_cut_21 rfl hl (by decide) rfl (fun ls hl => ?_)
    refine lv_aload_n hx hb dX4_cut_22 rfl (lv_at hl 1 rfl) ?_
    refine lv_iload_n hx hb dX4_cut_23 rfl (lv_at hl 0 rfl) ?_
    refine r_ifneB (b := cardB n a && cardB n b) (tgt := 31) hx hb dX4_cut_24 (by decide) (fun h => absurd (h.symm.trans hbad) (by decide)) (fun _ => ?_)
    refine lv_iconst (v := nI 1) hx hb dX4_cut_27 (by decide) ?_
    refine lv_goto (tgt := 49) hx hb dX4_cut_28 (by decide) ?_
    refine k_Wi (va_runV (As := [.int (nI 1)]) (rest := []) hF (c_X4_isFine_1 l D cI cA ad th n y) (cwV 1 hts gX4_cut_X4_isFine rfl rfl rfl (by decide +kernel) ⟨(Nat.le_of_ble_eq_true rfl), (Nat.le_of_ble_eq_true rfl)⟩) (k_pre hP hK hD hT (k := 0) (by decide) mF_0 rfl) rfl rfl hl.1 rfl (lv_room (Nat.le_of_ble_eq_true rfl)) dX4_cut_49 ⟨Nat.zero_le _, Nat.zero_le _⟩) hD hS (fun H locs hP hS => ?_)
    refine r_ifneB (b := false) (tgt := 57) hx hb dX4_cut_52 (by decide) (fun h => absurd h (by decide)) (fun _ => ?_)
    refine lv_iconst (v := nI 0) hx hb dX4_cut_55 (by decide) ?_
    exact hret _ _ _ _ _ _ hP hS dX4_cut_56 (rfl) (rfl)
  refine r_ifeqB (b := cardB n a) (tgt := 20) hx hb dX4_cut_5 (by decide) (fun h5_3 => ?_) (fun h5_3 => ?_)
  · refine lv_iconst (v := nI 0) hx hb dX4_cut_20 (by decide) ?_
    refine r_topi (show (nI 0 : Int32) = bI (cardB n a && cardB n b) from by simp [bI, h5_3]) ?_
    exact hJ21 _ _ hP hS _ (lv_sub hl [0, 1, 2] rfl)
  · refine lv_aload_n hx hb dX4_cut_8 rfl (lv_at hl 0 rfl) ?_
    refine lv_iload_n hx hb dX4_cut_9 rfl (lv_at hl 2 rfl) ?_
    refine k_Ri (va_runV (As := [.int b]) (rest := []) hF (c_X4_isCard l D cI cA ad th n y b hn) (cwV 1 hts gX4_cut_X4_isCard rfl rfl rfl (by decide +kernel) ⟨(Nat.le_of_ble_eq_true rfl), (Nat.le_of_ble_eq_true rfl)⟩) (k_pre hP hK hD hT (k := 0) (by decide) mF_0 rfl) rfl rfl hl.1 rfl (lv_room (Nat.le_of_ble_eq_true rfl)) dX4_cut_10 ⟨Nat.zero_le _, Nat.zero_le _⟩) ?_
    refine r_ifeqB (b := cardB n b) (tgt := 20) hx hb dX4_cut_13 (by decide) (fun h13_4 => ?_) (fun h13_4 => ?_)
    · refine lv_iconst (v := nI 0) hx hb dX4_cut_20 (by decide) ?_
      refine r_topi (show (nI 0 : Int32) = bI (cardB n a && cardB n b) from by simp [bI, h5_3, h13_4]) ?_
      exact hJ21 _ _ hP hS _ (lv_sub hl [0, 1, 2] rfl)
    · refine lv_iconst (v := nI 1) hx hb dX4_cut_16 (by decide) ?_
      refine lv_goto (tgt := 21) hx hb dX4_cut_17 (by decide) ?_
      refine r_topi (show (nI 1 : Int32) = bI (cardB n a && cardB n b) from by simp [bI, h5_3, h13_4]) ?_
      exact hJ21 _ _ hP hS _ (lv_sub hl [0, 1, 2] rfl)
set_option maxHeartbeats 4000000 in
set_option maxRecDepth 100000 in
theorem m_cut_2 (l : Launch) (D : va_G) (cI : ClassId) (cA : ClassId) (ad : Nat → Nat) (th : Int32) (n : Nat) (y : Nat → Nat → Int32) (c : Nat) (d : Nat) (hc : c < n) (hd : d < n) (hn : n ≤ 24) (hlk : hasB (y 4 c) d = false) : Met l yX4_cut wsX4_cut ({ frames := 2, cells := 0, slots := 0, locals := 43 }) (va_Pc [.ref (ad 0), .int (nI c), .int (nI d)] (mX D cI cA ad th n y)) (qW D ad (mF cI ad (nI 2) n y) 8 (some (.int (bI false)))) 0 0 (wA ad 8) := by
  refine c_ofW (cc := cX4_cut) (maxL := 4) (ret := .boolean) (by decide) rfl (nar_bI _) (Nat.le_of_ble_eq_true rfl) ?_
  intro p e s m av below meth cd Q hx hb hF hP hK hD hT hret ls hl
  have hown : s.vm.findClass RX4 = some m.cls := hF.2.2.2.1
  have hF : CallFix p m cd cX4_cut 4 s av wsX4_cut RX4 := hF
  have hts := hF.2.2.2.2
  have hl : lv_has ls 4 [(0, .ref (ad 0)), (1, .int (nI c)), (2, .int (nI d))] := hl
  obtain ⟨H, eH⟩ : ∃ H9 : Heap, H9 = s.heap := ⟨_, rfl⟩
  obtain ⟨locs, eL⟩ : ∃ L9 : List Loc, L9 = [] := ⟨_, rfl⟩
  have hS : sS (wA ad 8) s.heap H locs := by rw [eH, eL]; exact sS.rf
  rw [← eH] at hP
  suffices hgo : W p l e ({ frames := 2, cells := 0, slots := 0, locals := 43 }) s m av below meth cd H locs 0 0 Q (F0 m 0 ls []) by rw [eH, eL] at hgo; exact hgo
  clear eH eL
  refine lv_aload_n hx hb dX4_cut_0 rfl (lv_at hl 0 rfl) ?_
  refine lv_iload_n hx hb dX4_cut_1 rfl (lv_at hl 1 rfl) ?_
  refine k_Ri (va_runV (As := [.int (nI c)]) (rest := []) hF (c_X4_isCard l D cI cA ad th n y (nI c) hn) (cwV 1 hts gX4_cut_X4_isCard rfl rfl rfl (by decide +kernel) ⟨(Nat.le_of_ble_eq_true rfl), (Nat.le_of_ble_eq_true rfl)⟩) (k_pre hP hK hD hT (k := 0) (by decide) mF_0 rfl) rfl rfl hl.1 rfl (lv_room (Nat.le_of_ble_eq_true rfl)) dX4_cut_2 ⟨Nat.zero_le _, Nat.zero_le _⟩) ?_
  refine r_topi (show bI (cardB n (nI c)) = bI true from congrArg bI (cardB_ok hc hn)) ?_
  refine r_ifeqB (b := true) (tgt := 20) hx hb dX4_cut_5 (by decide) (fun h => absurd h (by decide)) (fun _ => ?_)
  refine lv_aload_n hx hb dX4_cut_8 rfl (lv_at hl 0 rfl) ?_
  refine lv_iload_n hx hb dX4_cut_9 rfl (lv_at hl 2 rfl) ?_
  refine k_Ri (va_runV (As := [.int (nI d)]) (rest := []) hF (c_X4_isCard l D cI cA ad th n y (nI d) hn) (cwV 1 hts gX4_cut_X4_isCard rfl rfl rfl (by decide +kernel) ⟨(Nat.le_of_ble_eq_true rfl), (Nat.le_of_ble_eq_true rfl)⟩) (k_pre hP hK hD hT (k := 0) (by decide) mF_0 rfl) rfl rfl hl.1 rfl (lv_room (Nat.le_of_ble_eq_true rfl)) dX4_cut_10 ⟨Nat.zero_le _, Nat.zero_le _⟩) ?_
  refine r_topi (show bI (cardB n (nI d)) = bI true from congrArg bI (cardB_ok hd hn)) ?_
  refine r_ifeqB (b := true) (tgt := 20) hx hb dX4_cut_13 (by decide) (fun h => absurd h (by decide)) (fun _ => ?_)
  refine lv_iconst (v := nI 1) hx hb dX4_cut_16 (by decide) ?_
  refine lv_goto (tgt := 21) hx hb dX4_cut_17 (by decide) ?_
  refine lv_istore_n (lv' := [(3, .int (nI 1)), (0, .ref (ad 0)), (1, .int (nI c)), (2, .int (nI d))]) hx hb dX4_cut_21 rfl hl (by decide) rfl (fun ls hl => ?_)
  refine lv_aload_n hx hb dX4_cut_22 rfl (lv_at hl 1 rfl) ?_
  refine lv_iload_n hx hb dX4_cut_23 rfl (lv_at hl 0 rfl) ?_
  refine r_ifneN (a := 1) (tgt := 31) hx hb (by omega) dX4_cut_24 (by decide) (fun _ => ?_) (fun h => absurd h (by omega))
  refine lv_aload_n hx hb dX4_cut_31 rfl (lv_at hl 1 rfl) ?_
  refine r_get (C := RX4) (T := TX4) (M := 9) (index := 19) (fd := "links") (fo := "[I") hx hb hts (by decide +kernel) hown hK hP 0 (by decide) mF_0 rfl 4 (by decide) rfl (by decide +kernel) rfl dX4_cut_32 ?_
  refine lv_iload_n hx hb dX4_cut_35 rfl (lv_at hl 2 rfl) ?_
  refine r_iald hx hb hK hP 4 0 (by omega) (mF_a 4 (by omega)) rfl (i := c) (by omega) (by decide) dX4_cut_36 ?_
  refine lv_iload_n hx hb dX4_cut_37 rfl (lv_at hl 3 rfl) ?_
  refine k_Ri (va_runS (As := [.int (y 4 c), .int (nI d)]) (rest := [.ref (ad 0)]) hF (c_X4_has l d (y 4 c) (by omega)) (va_cwS 2 hts gX4_cut_X4_has rfl rfl rfl (by decide +kernel) ⟨(Nat.le_of_ble_eq_true rfl), (Nat.le_of_ble_eq_true rfl)⟩) k_preS rfl rfl hl.1 rfl (lv_room (Nat.le_of_ble_eq_true rfl)) dX4_cut_38 ⟨Nat.zero_le _, Nat.zero_le _⟩) ?_
  refine r_topi (show bI (hasB (y 4 c) d) = bI false from congrArg bI (hlk)) ?_
  refine r_ifneB (b := false) (tgt := 48) hx hb dX4_cut_41 (by decide) (fun h => absurd h (by decide)) (fun _ => ?_)
  refine lv_iconst (v := nI 2) hx hb dX4_cut_44 (by decide) ?_
  refine lv_goto (tgt := 49) hx hb dX4_cut_45 (by decide) ?_
  refine k_Wi (va_runV (As := [.int (nI 2)]) (rest := []) hF (c_X4_isFine_2 l D cI cA ad th n y) (cwV 1 hts gX4_cut_X4_isFine rfl rfl rfl (by decide +kernel) ⟨(Nat.le_of_ble_eq_true rfl), (Nat.le_of_ble_eq_true rfl)⟩) (k_pre hP hK hD hT (k := 0) (by decide) mF_0 rfl) rfl rfl hl.1 rfl (lv_room (Nat.le_of_ble_eq_true rfl)) dX4_cut_49 ⟨Nat.zero_le _, Nat.zero_le _⟩) hD hS (fun H locs hP hS => ?_)
  refine r_ifneB (b := false) (tgt := 57) hx hb dX4_cut_52 (by decide) (fun h => absurd h (by decide)) (fun _ => ?_)
  refine lv_iconst (v := nI 0) hx hb dX4_cut_55 (by decide) ?_
  exact hret _ _ _ _ _ _ hP hS dX4_cut_56 (rfl) (rfl)
