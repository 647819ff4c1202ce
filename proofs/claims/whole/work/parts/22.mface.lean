set_option maxHeartbeats 4000000 in
set_option maxRecDepth 100000 in
theorem m_add_0 (l : Launch) (D : va_G) (cI : ClassId) (cA : ClassId) (ad : Nat → Nat) (th : Int32) (n : Nat) (y : Nat → Nat → Int32) (b : Int32) (w : Int32) (hbk : bookB b = true) (hnm : nameB w = true) (hn : n < 24) : Met l yX4_add wsX4_add ({ frames := 2, cells := 0, slots := 0, locals := 42 }) (va_Pc [.ref (ad 0), .int b, .int w] (mX D cI cA ad th n y)) (qW D ad (mF cI ad (nI 0) (n + 1) (mappE y n b w)) 8 (some (.int (nI n)))) 0 0 (wA ad 8) := by
  refine c_ofW (cc := cX4_add) (maxL := 4) (ret := .int) (by decide) rfl rfl (Nat.le_of_ble_eq_true rfl) ?_
  intro p e s m av below meth cd Q hx hb hF hP hK hD hT hret ls hl
  have hown : s.vm.findClass RX4 = some m.cls := hF.2.2.2.1
  have hF : CallFix p m cd cX4_add 4 s av wsX4_add RX4 := hF
  have hts := hF.2.2.2.2
  have hl : lv_has ls 4 [(0, .ref (ad 0)), (1, .int b), (2, .int w)] := hl
  obtain ⟨H, eH⟩ : ∃ H9 : Heap, H9 = s.heap := ⟨_, rfl⟩
  obtain ⟨locs, eL⟩ : ∃ L9 : List Loc, L9 = [] := ⟨_, rfl⟩
  have hS : sS (wA ad 8) s.heap H locs := by rw [eH, eL]; exact sS.rf
  rw [← eH] at hP
  suffices hgo : W p l e ({ frames := 2, cells := 0, slots := 0, locals := 42 }) s m av below meth cd H locs 0 0 Q (F0 m 0 ls []) by rw [eH, eL] at hgo; exact hgo
  clear eH eL
  refine lv_aload_n hx hb dX4_add_0 rfl (lv_at hl 0 rfl) ?_
  refine lv_iload_n hx hb dX4_add_1 rfl (lv_at hl 1 rfl) ?_
  refine k_Ri (va_runS (As := [.int b]) (rest := [.ref (ad 0)]) hF (c_X4_isBook l b) (va_cwS 1 hts gX4_add_X4_isBook rfl rfl rfl (by decide +kernel) ⟨(Nat.le_of_ble_eq_true rfl), (Nat.le_of_ble_eq_true rfl)⟩) k_preS rfl rfl hl.1 rfl (lv_room (Nat.le_of_ble_eq_true rfl)) dX4_add_2 ⟨Nat.zero_le _, Nat.zero_le _⟩) ?_
  refine r_topi (show bI (bookB b) = bI true from congrArg bI (hbk)) ?_
  refine r_ifneB (b := true) (tgt := 12) hx hb dX4_add_5 (by decide) (fun _ => ?_) (fun h => absurd h (by decide))
  refine lv_iload_n hx hb dX4_add_12 rfl (lv_at hl 2 rfl) ?_
  refine lv_iconst (v := nI 0) hx hb dX4_add_13 (by decide) ?_
  refine lv_bipush (v := nI 31) hx hb dX4_add_14 (by decide) ?_
  refine k_Ri (va_runS (As := [.int w, .int (nI 0), .int (nI 31)]) (rest := [.ref (ad 0)]) hF (c_X4_isIn l w (nI 0) (nI 31)) (va_cwS 3 hts gX4_add_X4_isIn rfl rfl rfl (by decide +kernel) ⟨(Nat.le_of_ble_eq_true rfl), (Nat.le_of_ble_eq_true rfl)⟩) k_preS rfl rfl hl.1 rfl (lv_room (Nat.le_of_ble_eq_true rfl)) dX4_add_16 ⟨Nat.zero_le _, Nat.zero_le _⟩) ?_
  refine r_topi (show bI (inB w (nI 0) (nI 31)) = bI true from congrArg bI (inB_name.trans hnm)) ?_
  refine r_ifneB (b := true) (tgt := 26) hx hb dX4_add_19 (by decide) (fun _ => ?_) (fun h => absurd h (by decide))
  refine lv_aload_n hx hb dX4_add_26 rfl (lv_at hl 0 rfl) ?_
  refine r_get (C := RX4) (T := TX4) (M := 9) (index := 35) (fd := "cards") (fo := "I") hx hb hts (by decide +kernel) hown hK hP 0 (by decide) mF_0 rfl 7 (by decide) rfl (by decide +kernel) rfl dX4_add_27 ?_
  refine lv_bipush (v := nI 24) hx hb dX4_add_30 (by decide) ?_
  refine r_cneN (a := n) (b := 24) (tgt := 39) hx hb (by omega) (by omega) dX4_add_32 (by decide) (fun _ => ?_) (fun h => absurd h (by omega))
  refine lv_iconst (v := nI 0) hx hb dX4_add_39 (by decide) ?_
  refine k_Wi (va_runV (As := [.int (nI 0)]) (rest := []) hF (c_X4_isFine_0 l D cI cA ad th n y) (cwV 1 hts gX4_add_X4_isFine rfl rfl rfl (by decide +kernel) ⟨(Nat.le_of_ble_eq_true rfl), (Nat.le_of_ble_eq_true rfl)⟩) (k_pre hP hK hD hT (k := 0) (by decide) mF_0 rfl) rfl rfl hl.1 rfl (lv_room (Nat.le_of_ble_eq_true rfl)) dX4_add_40 ⟨Nat.zero_le _, Nat.zero_le _⟩) hD hS (fun H locs hP hS => ?_)
  refine r_ifneB (b := true) (tgt := 48) hx hb dX4_add_43 (by decide) (fun _ => ?_) (fun h => absurd h (by decide))
  refine lv_aload_n hx hb dX4_add_48 rfl (lv_at hl 0 rfl) ?_
  refine r_get (C := RX4) (T := TX4) (M := 9) (index := 7) (fd := "book") (fo := "[I") hx hb hts (by decide +kernel) hown hK hP 0 (by decide) mF_0 rfl 1 (by decide) rfl (by decide +kernel) rfl dX4_add_49 ?_
  refine lv_aload_n hx hb dX4_add_52 rfl (lv_at hl 0 rfl) ?_
  refine r_get (C := RX4) (T := TX4) (M := 9) (index := 35) (fd := "cards") (fo := "I") hx hb hts (by decide +kernel) hown hK hP 0 (by decide) mF_0 rfl 7 (by decide) rfl (by decide +kernel) rfl dX4_add_53 ?_
  refine lv_iload_n hx hb dX4_add_56 rfl (lv_at hl 1 rfl) ?_
  refine r_iast (f' := mF cI ad (nI 0) n (up2 y 1 n b)) hx hb hK hP hD hS 1 0 (by omega) (mF_a 1 (by omega)) rfl (i := n) (by omega) (by decide) (mF_up (mF_a 1 (by omega)) (by decide)) dX4_add_57 (fun H locs hP hS => ?_)
  refine lv_iconst (v := nI 0) hx hb dX4_add_58 (by decide) ?_
  refine lv_istore_n (lv' := [(3, .int (nI 0)), (0, .ref (ad 0)), (1, .int b), (2, .int w)]) hx hb dX4_add_59 rfl hl (by decide) rfl (fun ls hl => ?_)
  refine lv_iload_n hx hb dX4_add_60 rfl (lv_at hl 0 rfl) ?_
  refine lv_iconst (v := nI 3) hx hb dX4_add_61 (by decide) ?_
  refine r_cgeN (a := 0) (b := 3) (tgt := 85) hx hb (by omega) (by omega) dX4_add_62 (by decide) (fun h => absurd h (by omega)) (fun _ => ?_)
  refine lv_aload_n hx hb dX4_add_65 rfl (lv_at hl 1 rfl) ?_
  refine r_get (C := RX4) (T := TX4) (M := 9) (index := 13) (fd := "name") (fo := "[I") hx hb hts (by decide +kernel) hown hK hP 0 (by decide) mF_0 rfl 2 (by decide) rfl (by decide +kernel) rfl dX4_add_66 ?_
  refine lv_iconst (v := nI 3) hx hb dX4_add_69 (by decide) ?_
  refine lv_aload_n hx hb dX4_add_70 rfl (lv_at hl 1 rfl) ?_
  refine r_get (C := RX4) (T := TX4) (M := 9) (index := 35) (fd := "cards") (fo := "I") hx hb hts (by decide +kernel) hown hK hP 0 (by decide) mF_0 rfl 7 (by decide) rfl (by decide +kernel) rfl dX4_add_71 ?_
  refine r_mulN (a := 3) (b := n) (r := 3 * n) hx hb dX4_add_74 (by omega) ?_
  refine lv_iload_n hx hb dX4_add_75 rfl (lv_at hl 0 rfl) ?_
  refine r_addN (a := 3 * n) (b := 0) (r := 3 * n) hx hb dX4_add_76 (by omega) ?_
  refine lv_iload_n hx hb dX4_add_77 rfl (lv_at hl 3 rfl) ?_
  refine r_iast (f' := mF cI ad (nI 0) n (up2 (up2 y 1 n b) 2 (3 * n) w)) hx hb hK hP hD hS 2 0 (by omega) mF_2 rfl (i := 3 * n) (by omega) (by decide) (mF_up mF_2 (by decide)) dX4_add_78 (fun H locs hP hS => ?_)
  refine r_iincN (k := 0) (a := 0) (d := 1) (r := 1) (lv' := [(3, .int (nI 1)), (0, .ref (ad 0)), (1, .int b), (2, .int w)]) hx hb dX4_add_79 hl rfl (by omega) (by decide) rfl (fun ls hl => ?_)
  refine lv_goto (tgt := 60) hx hb dX4_add_82 (by decide) ?_
  refine lv_iload_n hx hb dX4_add_60 rfl (lv_at hl 0 rfl) ?_
  refine lv_iconst (v := nI 3) hx hb dX4_add_61 (by decide) ?_
  refine r_cgeN (a := 1) (b := 3) (tgt := 85) hx hb (by omega) (by omega) dX4_add_62 (by decide) (fun h => absurd h (by omega)) (fun _ => ?_)
  refine lv_aload_n hx hb dX4_add_65 rfl (lv_at hl 1 rfl) ?_
  refine r_get (C := RX4) (T := TX4) (M := 9) (index := 13) (fd := "name") (fo := "[I") hx hb hts (by decide +kernel) hown hK hP 0 (by decide) mF_0 rfl 2 (by decide) rfl (by decide +kernel) rfl dX4_add_66 ?_
  refine lv_iconst (v := nI 3) hx hb dX4_add_69 (by decide) ?_
  refine lv_aload_n hx hb dX4_add_70 rfl (lv_at hl 1 rfl) ?_
  refine r_get (C := RX4) (T := TX4) (M := 9) (index := 35) (fd := "cards") (fo := "I") hx hb hts (by decide +kernel) hown hK hP 0 (by decide) mF_0 rfl 7 (by decide) rfl (by decide +kernel) rfl dX4_add_71 ?_
  refine r_mulN (a := 3) (b := n) (r := 3 * n) hx hb dX4_add_74 (by omega) ?_
  refine lv_iload_n hx hb dX4_add_75 rfl (lv_at hl 0 rfl) ?_
  refine r_addN (a := 3 * n) (b := 1) (r := 3 * n + 1) hx hb dX4_add_76 (by omega) ?_
  refine lv_iload_n hx hb dX4_add_77 rfl (lv_at hl 3 rfl) ?_
  refine r_iast (f' := mF cI ad (nI 0) n (up2 (up2 (up2 y 1 n b) 2 (3 * n) w) 2 (3 * n + 1) w)) hx hb hK hP hD hS 2 0 (by omega) mF_2 rfl (i := 3 * n + 1) (by omega) (by decide) (mF_up mF_2 (by decide)) dX4_add_78 (fun H locs hP hS => ?_)
  refine r_iincN (k := 0) (a := 1) (d := 1) (r := 2) (lv' := [(3, .int (nI 2)), (0, .ref (ad 0)), (1, .int b), (2, .int w)]) hx hb dX4_add_79 hl rfl (by omega) (by decide) rfl (fun ls hl => ?_)
  refine lv_goto (tgt := 60) hx hb dX4_add_82 (by decide) ?_
  refine lv_iload_n hx hb dX4_add_60 rfl (lv_at hl 0 rfl) ?_
  refine lv_iconst (v := nI 3) hx hb dX4_add_61 (by decide) ?_
  refine r_cgeN (a := 2) (b := 3) (tgt := 85) hx hb (by omega) (by omega) dX4_add_62 (by decide) (fun h => absurd h (by omega)) (fun _ => ?_)
  refine lv_aload_n hx hb dX4_add_65 rfl (lv_at hl 1 rfl) ?_
  refine r_get (C := RX4) (T := TX4) (M := 9) (index := 13) (fd := "name") (fo := "[I") hx hb hts (by decide +kernel) hown hK hP 0 (by decide) mF_0 rfl 2 (by decide) rfl (by decide +kernel) rfl dX4_add_66 ?_
  refine lv_iconst (v := nI 3) hx hb dX4_add_69 (by decide) ?_
  refine lv_aload_n hx hb dX4_add_70 rfl (lv_at hl 1 rfl) ?_
  refine r_get (C := RX4) (T := TX4) (M := 9) (index := 35) (fd := "cards") (fo := "I") hx hb hts (by decide +kernel) hown hK hP 0 (by decide) mF_0 rfl 7 (by decide) rfl (by decide +kernel) rfl dX4_add_71 ?_
  refine r_mulN (a := 3) (b := n) (r := 3 * n) hx hb dX4_add_74 (by omega) ?_
  refine lv_iload_n hx hb dX4_add_75 rfl (lv_at hl 0 rfl) ?_
  refine r_addN (a := 3 * n) (b := 2) (r := 3 * n + 2) hx hb dX4_add_76 (by omega) ?_
  refine lv_iload_n hx hb dX4_add_77 rfl (lv_at hl 3 rfl) ?_
  refine r_iast (f' := mF cI ad (nI 0) n (up2 (up2 (up2 (up2 y 1 n b) 2 (3 * n) w) 2 (3 * n + 1) w) 2 (3 * n + 2) w)) hx hb hK hP hD hS 2 0 (by omega) mF_2 rfl (i := 3 * n + 2) (by omega) (by decide) (mF_up mF_2 (by decide)) dX4_add_78 (fun H locs hP hS => ?_)
  refine r_iincN (k := 0) (a := 2) (d := 1) (r := 3) (lv' := [(3, .int (nI 3)), (0, .ref (ad 0)), (1, .int b), (2, .int w)]) hx hb dX4_add_79 hl rfl (by omega) (by decide) rfl (fun ls hl => ?_)
  refine lv_goto (tgt := 60) hx hb dX4_add_82 (by decide) ?_
  refine lv_iload_n hx hb dX4_add_60 rfl (lv_at hl 0 rfl) ?_
  refine lv_iconst (v := nI 3) hx hb dX4_add_61 (by decide) ?_
  refine r_cgeN (a := 3) (b := 3) (tgt := 85) hx hb (by omega) (by omega) dX4_add_62 (by decide) (fun _ => ?_) (fun h => absurd h (by omega))
  refine lv_aload_n hx hb dX4_add_85 rfl (lv_at hl 1 rfl) ?_
  refine lv_dup hx hb dX4_add_86 rfl ?_
  refine r_get (C := RX4) (T := TX4) (M := 9) (index := 35) (fd := "cards") (fo := "I") hx hb hts (by decide +kernel) hown hK hP 0 (by decide) mF_0 rfl 7 (by decide) rfl (by decide +kernel) rfl dX4_add_87 ?_
  refine lv_iconst (v := nI 1) hx hb dX4_add_90 (by decide) ?_
  refine r_addN (a := n) (b := 1) (r := n + 1) hx hb dX4_add_91 (by omega) ?_
  refine r_put (C := RX4) (T := TX4) (M := 9) (index := 35) (fd := "cards") (f' := mF cI ad (nI 0) (n + 1) (up2 (up2 (up2 (up2 y 1 n b) 2 (3 * n) w) 2 (3 * n + 1) w) 2 (3 * n + 2) w)) hx hb hts (by decide +kernel) tyX4 tyX4_ok nmX4 hown hK hP hD hS 0 (by decide) mF_0 rfl 7 (by decide) rfl (by decide +kernel) (Nat.le_of_ble_eq_true rfl) mF_n dX4_add_92 (fun H locs hP hS => ?_)
  refine lv_aload_n hx hb dX4_add_95 rfl (lv_at hl 1 rfl) ?_
  refine r_get (C := RX4) (T := TX4) (M := 9) (index := 35) (fd := "cards") (fo := "I") hx hb hts (by decide +kernel) hown hK hP 0 (by decide) mF_0 rfl 7 (by decide) rfl (by decide +kernel) rfl dX4_add_96 ?_
  refine lv_iconst (v := nI 1) hx hb dX4_add_99 (by decide) ?_
  refine r_subN (a := n + 1) (b := 1) (r := n) hx hb dX4_add_100 (by omega) (by omega) ?_
  exact hret _ _ _ _ _ _ hP hS dX4_add_101 (rfl) (rfl)
set_option maxHeartbeats 4000000 in
set_option maxRecDepth 100000 in
theorem m_add_1 (l : Launch) (D : va_G) (cI : ClassId) (cA : ClassId) (ad : Nat → Nat) (th : Int32) (n : Nat) (y : Nat → Nat → Int32) (b : Int32) (w : Int32) (hbk : bookB b = false) : Met l yX4_add wsX4_add ({ frames := 2, cells := 0, slots := 0, locals := 42 }) (va_Pc [.ref (ad 0), .int b, .int w] (mX D cI cA ad th n y)) (qW D ad (mF cI ad (nI 1) n y) 8 (some (.int (nI 0)))) 0 0 (wA ad 8) := by
  refine c_ofW (cc := cX4_add) (maxL := 4) (ret := .int) (by decide) rfl rfl (Nat.le_of_ble_eq_true rfl) ?_
  intro p e s m av below meth cd Q hx hb hF hP hK hD hT hret ls hl
  have hown : s.vm.findClass RX4 = some m.cls := hF.2.2.2.1
  have hF : CallFix p m cd cX4_add 4 s av wsX4_add RX4 := hF
  have hts := hF.2.2.2.2
  have hl : lv_has ls 4 [(0, .ref (ad 0)), (1, .int b), (2, .int w)] := hl
  obtain ⟨H, eH⟩ : ∃ H9 : Heap, H9 = s.heap := ⟨_, rfl⟩
  obtain ⟨locs, eL⟩ : ∃ L9 : List Loc, L9 = [] := ⟨_, rfl⟩
  have hS : sS (wA ad 8) s.heap H locs := by rw [eH, eL]; exact sS.rf
  rw [← eH] at hP
  suffices hgo : W p l e ({ frames := 2, cells := 0, slots := 0, locals := 42 }) s m av below meth cd H locs 0 0 Q (F0 m 0 ls []) by rw [eH, eL] at hgo; exact hgo
  clear eH eL
  refine lv_aload_n hx hb dX4_add_0 rfl (lv_at hl 0 rfl) ?_
  refine lv_iload_n hx hb dX4_add_1 rfl (lv_at hl 1 rfl) ?_
  refine k_Ri (va_runS (As := [.int b]) (rest := [.ref (ad 0)]) hF (c_X4_isBook l b) (va_cwS 1 hts gX4_add_X4_isBook rfl rfl rfl (by decide +kernel) ⟨(Nat.le_of_ble_eq_true rfl), (Nat.le_of_ble_eq_true rfl)⟩) k_preS rfl rfl hl.1 rfl (lv_room (Nat.le_of_ble_eq_true rfl)) dX4_add_2 ⟨Nat.zero_le _, Nat.zero_le _⟩) ?_
  refine r_topi (show bI (bookB b) = bI false from congrArg bI (hbk)) ?_
  refine r_ifneB (b := false) (tgt := 12) hx hb dX4_add_5 (by decide) (fun h => absurd h (by decide)) (fun _ => ?_)
  refine lv_iconst (v := nI 1) hx hb dX4_add_8 (by decide) ?_
  refine lv_goto (tgt := 40) hx hb dX4_add_9 (by decide) ?_
  refine k_Wi (va_runV (As := [.int (nI 1)]) (rest := []) hF (c_X4_isFine_1 l D cI cA ad th n y) (cwV 1 hts gX4_add_X4_isFine rfl rfl rfl (by decide +kernel) ⟨(Nat.le_of_ble_eq_true rfl), (Nat.le_of_ble_eq_true rfl)⟩) (k_pre hP hK hD hT (k := 0) (by decide) mF_0 rfl) rfl rfl hl.1 rfl (lv_room (Nat.le_of_ble_eq_true rfl)) dX4_add_40 ⟨Nat.zero_le _, Nat.zero_le _⟩) hD hS (fun H locs hP hS => ?_)
  refine r_ifneB (b := false) (tgt := 48) hx hb dX4_add_43 (by decide) (fun h => absurd h (by decide)) (fun _ => ?_)
  refine lv_iconst (v := nI 0) hx hb dX4_add_46 (by decide) ?_
  exact hret _ _ _ _ _ _ hP hS dX4_add_47 (rfl) (rfl)
set_option maxHeartbeats 4000000 in
set_option maxRecDepth 100000 in
theorem m_add_2 (l : Launch) (D : va_G) (cI : ClassId) (cA : ClassId) (ad : Nat → Nat) (th : Int32) (n : Nat) (y : Nat → Nat → Int32) (b : Int32) (w : Int32) (hbk : bookB b = true) (hnm : nameB w = false) : Met l yX4_add wsX4_add ({ frames := 2, cells := 0, slots := 0, locals := 42 }) (va_Pc [.ref (ad 0), .int b, .int w] (mX D cI cA ad th n y)) (qW D ad (mF cI ad (nI 2) n y) 8 (some (.int (nI 0)))) 0 0 (wA ad 8) := by
  refine c_ofW (cc := cX4_add) (maxL := 4) (ret := .int) (by decide) rfl rfl (Nat.le_of_ble_eq_true rfl) ?_
  intro p e s m av below meth cd Q hx hb hF hP hK hD hT hret ls hl
  have hown : s.vm.findClass RX4 = some m.cls := hF.2.2.2.1
  have hF : CallFix p m cd cX4_add 4 s av wsX4_add RX4 := hF
  have hts := hF.2.2.2.2
  have hl : lv_has ls 4 [(0, .ref (ad 0)), (1, .int b), (2, .int w)] := hl
  obtain ⟨H, eH⟩ : ∃ H9 : Heap, H9 = s.heap := ⟨_, rfl⟩
  obtain ⟨locs, eL⟩ : ∃ L9 : List Loc, L9 = [] := ⟨_, rfl⟩
  have hS : sS (wA ad 8) s.heap H locs := by rw [eH, eL]; exact sS.rf
  rw [← eH] at hP
  suffices hgo : W p l e ({ frames := 2, cells := 0, slots := 0, locals := 42 }) s m av below meth cd H locs 0 0 Q (F0 m 0 ls []) by rw [eH, eL] at hgo; exact hgo
  clear eH eL
  refine lv_aload_n hx hb dX4_add_0 rfl (lv_at hl 0 rfl) ?_
  refine lv_iload_n hx hb dX4_add_1 rfl (lv_at hl 1 rfl) ?_
  refine k_Ri (va_runS (As := [.int b]) (rest := [.ref (ad 0)]) hF (c_X4_isBook l b) (va_cwS 1 hts gX4_add_X4_isBook rfl rfl rfl (by decide +kernel) ⟨(Nat.le_of_ble_eq_true rfl), (Nat.le_of_ble_eq_true rfl)⟩) k_preS rfl rfl hl.1 rfl (lv_room (Nat.le_of_ble_eq_true rfl)) dX4_add_2 ⟨Nat.zero_le _, Nat.zero_le _⟩) ?_
  refine r_topi (show bI (bookB b) = bI true from congrArg bI (hbk)) ?_
  refine r_ifneB (b := true) (tgt := 12) hx hb dX4_add_5 (by decide) (fun _ => ?_) (fun h => absurd h (by decide))
  refine lv_iload_n hx hb dX4_add_12 rfl (lv_at hl 2 rfl) ?_
  refine lv_iconst (v := nI 0) hx hb dX4_add_13 (by decide) ?_
  refine lv_bipush (v := nI 31) hx hb dX4_add_14 (by decide) ?_
  refine k_Ri (va_runS (As := [.int w, .int (nI 0), .int (nI 31)]) (rest := [.ref (ad 0)]) hF (c_X4_isIn l w (nI 0) (nI 31)) (va_cwS 3 hts gX4_add_X4_isIn rfl rfl rfl (by decide +kernel) ⟨(Nat.le_of_ble_eq_true rfl), (Nat.le_of_ble_eq_true rfl)⟩) k_preS rfl rfl hl.1 rfl (lv_room (Nat.le_of_ble_eq_true rfl)) dX4_add_16 ⟨Nat.zero_le _, Nat.zero_le _⟩) ?_
  refine r_topi (show bI (inB w (nI 0) (nI 31)) = bI false from congrArg bI (inB_name.trans hnm)) ?_
  refine r_ifneB (b := false) (tgt := 26) hx hb dX4_add_19 (by decide) (fun h => absurd h (by decide)) (fun _ => ?_)
  refine lv_iconst (v := nI 2) hx hb dX4_add_22 (by decide) ?_
  refine lv_goto (tgt := 40) hx hb dX4_add_23 (by decide) ?_
  refine k_Wi (va_runV (As := [.int (nI 2)]) (rest := []) hF (c_X4_isFine_2 l D cI cA ad th n y) (cwV 1 hts gX4_add_X4_isFine rfl rfl rfl (by decide +kernel) ⟨(Nat.le_of_ble_eq_true rfl), (Nat.le_of_ble_eq_true rfl)⟩) (k_pre hP hK hD hT (k := 0) (by decide) mF_0 rfl) rfl rfl hl.1 rfl (lv_room (Nat.le_of_ble_eq_true rfl)) dX4_add_40 ⟨Nat.zero_le _, Nat.zero_le _⟩) hD hS (fun H locs hP hS => ?_)
  refine r_ifneB (b := false) (tgt := 48) hx hb dX4_add_43 (by decide) (fun h => absurd h (by decide)) (fun _ => ?_)
  refine lv_iconst (v := nI 0) hx hb dX4_add_46 (by decide) ?_
  exact hret _ _ _ _ _ _ hP hS dX4_add_47 (rfl) (rfl)
set_option maxHeartbeats 4000000 in
set_option maxRecDepth 100000 in
theorem m_add_3 (l : Launch) (D : va_G) (cI : ClassId) (cA : ClassId) (ad : Nat → Nat) (th : Int32) (n : Nat) (y : Nat → Nat → Int32) (b : Int32) (w : Int32) (hbk : bookB b = true) (hnm : nameB w = true) (hn : n = 24) : Met l yX4_add wsX4_add ({ frames := 2, cells := 0, slots := 0, locals := 42 }) (va_Pc [.ref (ad 0), .int b, .int w] (mX D cI cA ad th n y)) (qW D ad (mF cI ad (nI 3) n y) 8 (some (.int (nI 0)))) 0 0 (wA ad 8) := by
  refine c_ofW (cc := cX4_add) (maxL := 4) (ret := .int) (by decide) rfl rfl (Nat.le_of_ble_eq_true rfl) ?_
  intro p e s m av below meth cd Q hx hb hF hP hK hD hT hret ls hl
  have hown : s.vm.findClass RX4 = some m.cls := hF.2.2.2.1
  have hF : CallFix p m cd cX4_add 4 s av wsX4_add RX4 := hF
  have hts := hF.2.2.2.2
  have hl : lv_has ls 4 [(0, .ref (ad 0)), (1, .int b), (2, .int w)] := hl
  obtain ⟨H, eH⟩ : ∃ H9 : Heap, H9 = s.heap := ⟨_, rfl⟩
  obtain ⟨locs, eL⟩ : ∃ L9 : List Loc, L9 = [] := ⟨_, rfl⟩
  have hS : sS (wA ad 8) s.heap H locs := by rw [eH, eL]; exact sS.rf
  rw [← eH] at hP
  suffices hgo : W p l e ({ frames := 2, cells := 0, slots := 0, locals := 42 }) s m av below meth cd H locs 0 0 Q (F0 m 0 ls []) by rw [eH, eL] at hgo; exact hgo
  clear eH eL
  refine lv_aload_n hx hb dX4_add_0 rfl (lv_at hl 0 rfl) ?_
  refine lv_iload_n hx hb dX4_add_1 rfl (lv_at hl 1 rfl) ?_
  refine k_Ri (va_runS (As := [.int b]) (rest := [.ref (ad 0)]) hF (c_X4_isBook l b) (va_cwS 1 hts gX4_add_X4_isBook rfl rfl rfl (by decide +kernel) ⟨(Nat.le_of_ble_eq_true rfl), (Nat.le_of_ble_eq_true rfl)⟩) k_preS rfl rfl hl.1 rfl (lv_room (Nat.le_of_ble_eq_true rfl)) dX4_add_2 ⟨Nat.zero_le _, Nat.zero_le _⟩) ?_
  refine r_topi (show bI (bookB b) = bI true from congrArg bI (hbk)) ?_
  refine r_ifneB (b := true) (tgt := 12) hx hb dX4_add_5 (by decide) (fun _ => ?_) (fun h => absurd h (by decide))
  refine lv_iload_n hx hb dX4_add_12 rfl (lv_at hl 2 rfl) ?_
  refine lv_iconst (v := nI 0) hx hb dX4_add_13 (by decide) ?_
  refine lv_bipush (v := nI 31) hx hb dX4_add_14 (by decide) ?_
  refine k_Ri (va_runS (As := [.int w, .int (nI 0), .int (nI 31)]) (rest := [.ref (ad 0)]) hF (c_X4_isIn l w (nI 0) (nI 31)) (va_cwS 3 hts gX4_add_X4_isIn rfl rfl rfl (by decide +kernel) ⟨(Nat.le_of_ble_eq_true rfl), (Nat.le_of_ble_eq_true rfl)⟩) k_preS rfl rfl hl.1 rfl (lv_room (Nat.le_of_ble_eq_true rfl)) dX4_add_16 ⟨Nat.zero_le _, Nat.zero_le _⟩) ?_
  refine r_topi (show bI (inB w (nI 0) (nI 31)) = bI true from congrArg bI (inB_name.trans hnm)) ?_
  refine r_ifneB (b := true) (tgt := 26) hx hb dX4_add_19 (by decide) (fun _ => ?_) (fun h => absurd h (by decide))
  refine lv_aload_n hx hb dX4_add_26 rfl (lv_at hl 0 rfl) ?_
  refine r_get (C := RX4) (T := TX4) (M := 9) (index := 35) (fd := "cards") (fo := "I") hx hb hts (by decide +kernel) hown hK hP 0 (by decide) mF_0 rfl 7 (by decide) rfl (by decide +kernel) rfl dX4_add_27 ?_
  refine lv_bipush (v := nI 24) hx hb dX4_add_30 (by decide) ?_
  refine r_cneN (a := n) (b := 24) (tgt := 39) hx hb (by omega) (by omega) dX4_add_32 (by decide) (fun h => absurd (by omega) h) (fun _ => ?_)
  refine lv_iconst (v := nI 3) hx hb dX4_add_35 (by decide) ?_
  refine lv_goto (tgt := 40) hx hb dX4_add_36 (by decide) ?_
  refine k_Wi (va_runV (As := [.int (nI 3)]) (rest := []) hF (c_X4_isFine_3 l D cI cA ad th n y) (cwV 1 hts gX4_add_X4_isFine rfl rfl rfl (by decide +kernel) ⟨(Nat.le_of_ble_eq_true rfl), (Nat.le_of_ble_eq_true rfl)⟩) (k_pre hP hK hD hT (k := 0) (by decide) mF_0 rfl) rfl rfl hl.1 rfl (lv_room (Nat.le_of_ble_eq_true rfl)) dX4_add_40 ⟨Nat.zero_le _, Nat.zero_le _⟩) hD hS (fun H locs hP hS => ?_)
  refine r_ifneB (b := false) (tgt := 48) hx hb dX4_add_43 (by decide) (fun h => absurd h (by decide)) (fun _ => ?_)
  refine lv_iconst (v := nI 0) hx hb dX4_add_46 (by decide) ?_
  exact hret _ _ _ _ _ _ hP hS dX4_add_47 (rfl) (rfl)
set_option maxHeartbeats 4000000 in
set_option maxRecDepth 100000 in
theorem m_turn_0 (l : Launch) (D : va_G) (cI : ClassId) (cA : ClassId) (ad : Nat → Nat) (th : Int32) (n : Nat) (y : Nat → Nat → Int32) (c : Nat) (v : Nat) (k : Nat) (w : Nat) (hc : c < n) (hn : n ≤ 24) (hv : v < 2) (hk : k < 2) (hw : w < 30) : Met l yX4_turn wsX4_turn ({ frames := 2, cells := 0, slots := 0, locals := 46 }) (va_Pc [.ref (ad 0), .int (nI c), .int (nI v), .int (nI k), .int (nI w)] (mX D cI cA ad th n y)) (qW D ad (mF cI ad (nI 0) n (mputS y n c v k (y 3 (6 * c + 2 * v + k) ^^^ bit w))) 8 (some (.int (bI (hasB (mputS y n c v k (y 3 (6 * c + 2 * v + k) ^^^ bit w) 3 (6 * c + 2 * v + k)) w))))) 0 0 (wA ad 8) := by
  refine c_ofW (cc := cX4_turn) (maxL := 6) (ret := .boolean) (by decide) rfl (nar_bI _) (Nat.le_of_ble_eq_true rfl) ?_
  intro p e s m av below meth cd Q hx hb hF hP hK hD hT hret ls hl
  have hown : s.vm.findClass RX4 = some m.cls := hF.2.2.2.1
  have hF : CallFix p m cd cX4_turn 6 s av wsX4_turn RX4 := hF
  have hts := hF.2.2.2.2
  have hl : lv_has ls 6 [(0, .ref (ad 0)), (1, .int (nI c)), (2, .int (nI v)), (3, .int (nI k)), (4, .int (nI w))] := hl
  obtain ⟨H, eH⟩ : ∃ H9 : Heap, H9 = s.heap := ⟨_, rfl⟩
  obtain ⟨locs, eL⟩ : ∃ L9 : List Loc, L9 = [] := ⟨_, rfl⟩
  have hS : sS (wA ad 8) s.heap H locs := by rw [eH, eL]; exact sS.rf
  rw [← eH] at hP
  suffices hgo : W p l e ({ frames := 2, cells := 0, slots := 0, locals := 46 }) s m av below meth cd H locs 0 0 Q (F0 m 0 ls []) by rw [eH, eL] at hgo; exact hgo
  clear eH eL
  refine lv_iload_n hx hb dX4_turn_0 rfl (lv_at hl 2 rfl) ?_
  refine lv_iconst (v := nI 0) hx hb dX4_turn_1 (by decide) ?_
  refine lv_iconst (v := nI 1) hx hb dX4_turn_2 (by decide) ?_
  refine k_Ri (va_runS (As := [.int (nI v), .int (nI 0), .int (nI 1)]) (rest := []) hF (c_X4_isIn l (nI v) (nI 0) (nI 1)) (va_cwS 3 hts gX4_turn_X4_isIn rfl rfl rfl (by decide +kernel) ⟨(Nat.le_of_ble_eq_true rfl), (Nat.le_of_ble_eq_true rfl)⟩) k_preS rfl rfl hl.1 rfl (lv_room (Nat.le_of_ble_eq_true rfl)) dX4_turn_3 ⟨Nat.zero_le _, Nat.zero_le _⟩) ?_
  refine r_topi (show bI (inB (nI v) (nI 0) (nI 1)) = bI true from congrArg bI (inB_chg.trans (chgB_ok hv))) ?_
  refine r_ifeqB (b := true) (tgt := 31) hx hb dX4_turn_6 (by decide) (fun h => absurd h (by decide)) (fun _ => ?_)
  refine lv_iload_n hx hb dX4_turn_9 rfl (lv_at hl 3 rfl) ?_
  refine k_Ri (va_runS (As := [.int (nI k)]) (rest := []) hF (c_X4_isKind l (nI k)) (va_cwS 1 hts gX4_turn_X4_isKind rfl rfl rfl (by decide +kernel) ⟨(Nat.le_of_ble_eq_true rfl), (Nat.le_of_ble_eq_true rfl)⟩) k_preS rfl rfl hl.1 rfl (lv_room (Nat.le_of_ble_eq_true rfl)) dX4_turn_10 ⟨Nat.zero_le _, Nat.zero_le _⟩) ?_
  refine r_topi (show bI (kindB (nI k)) = bI true from congrArg bI (kindB_ok hk)) ?_
  refine r_ifeqB (b := true) (tgt := 31) hx hb dX4_turn_13 (by decide) (fun h => absurd h (by decide)) (fun _ => ?_)
  refine lv_iload hx hb dX4_turn_16 (lv_at hl 4 rfl) ?_
  refine lv_iconst (v := nI 0) hx hb dX4_turn_18 (by decide) ?_
  refine lv_bipush (v := nI 29) hx hb dX4_turn_19 (by decide) ?_
  refine k_Ri (va_runS (As := [.int (nI w), .int (nI 0), .int (nI 29)]) (rest := []) hF (c_X4_isIn l (nI w) (nI 0) (nI 29)) (va_cwS 3 hts gX4_turn_X4_isIn rfl rfl rfl (by decide +kernel) ⟨(Nat.le_of_ble_eq_true rfl), (Nat.le_of_ble_eq_true rfl)⟩) k_preS rfl rfl hl.1 rfl (lv_room (Nat.le_of_ble_eq_true rfl)) dX4_turn_21 ⟨Nat.zero_le _, Nat.zero_le _⟩) ?_
  refine r_topi (show bI (inB (nI w) (nI 0) (nI 29)) = bI true from congrArg bI (inB_value.trans (valueB_ok hw))) ?_
  refine r_ifeqB (b := true) (tgt := 31) hx hb dX4_turn_24 (by decide) (fun h => absurd h (by decide)) (fun _ => ?_)
  refine lv_iconst (v := nI 1) hx hb dX4_turn_27 (by decide) ?_
  refine lv_goto (tgt := 32) hx hb dX4_turn_28 (by decide) ?_
  refine lv_istore (lv' := [(5, .int (nI 1)), (0, .ref (ad 0)), (1, .int (nI c)), (2, .int (nI v)), (3, .int (nI k)), (4, .int (nI w))]) hx hb dX4_turn_32 hl (by decide) rfl (fun ls hl => ?_)
  refine lv_aload_n hx hb dX4_turn_34 rfl (lv_at hl 1 rfl) ?_
  refine lv_aload_n hx hb dX4_turn_35 rfl (lv_at hl 1 rfl) ?_
  refine lv_iload_n hx hb dX4_turn_36 rfl (lv_at hl 2 rfl) ?_
  refine k_Ri (va_runV (As := [.int (nI c)]) (rest := [.ref (ad 0)]) hF (c_X4_isCard l D cI cA ad th n y (nI c) hn) (cwV 1 hts gX4_turn_X4_isCard rfl rfl rfl (by decide +kernel) ⟨(Nat.le_of_ble_eq_true rfl), (Nat.le_of_ble_eq_true rfl)⟩) (k_pre hP hK hD hT (k := 0) (by decide) mF_0 rfl) rfl rfl hl.1 rfl (lv_room (Nat.le_of_ble_eq_true rfl)) dX4_turn_37 ⟨Nat.zero_le _, Nat.zero_le _⟩) ?_
  refine r_topi (show bI (cardB n (nI c)) = bI true from congrArg bI (cardB_ok hc hn)) ?_
  refine r_ifneB (b := true) (tgt := 47) hx hb dX4_turn_40 (by decide) (fun _ => ?_) (fun h => absurd h (by decide))
  refine lv_iload hx hb dX4_turn_47 (lv_at hl 0 rfl) ?_
  refine r_ifneN (a := 1) (tgt := 56) hx hb (by omega) dX4_turn_49 (by decide) (fun _ => ?_) (fun h => absurd h (by omega))
  refine lv_iconst (v := nI 0) hx hb dX4_turn_56 (by decide) ?_
  refine k_Wi (va_runV (As := [.int (nI 0)]) (rest := []) hF (c_X4_isFine_0 l D cI cA ad th n y) (cwV 1 hts gX4_turn_X4_isFine rfl rfl rfl (by decide +kernel) ⟨(Nat.le_of_ble_eq_true rfl), (Nat.le_of_ble_eq_true rfl)⟩) (k_pre hP hK hD hT (k := 0) (by decide) mF_0 rfl) rfl rfl hl.1 rfl (lv_room (Nat.le_of_ble_eq_true rfl)) dX4_turn_57 ⟨Nat.zero_le _, Nat.zero_le _⟩) hD hS (fun H locs hP hS => ?_)
  refine r_ifneB (b := true) (tgt := 65) hx hb dX4_turn_60 (by decide) (fun _ => ?_) (fun h => absurd h (by decide))
  refine lv_aload_n hx hb dX4_turn_65 rfl (lv_at hl 1 rfl) ?_
  refine lv_iload_n hx hb dX4_turn_66 rfl (lv_at hl 2 rfl) ?_
  refine lv_iload_n hx hb dX4_turn_67 rfl (lv_at hl 3 rfl) ?_
  refine lv_iload_n hx hb dX4_turn_68 rfl (lv_at hl 4 rfl) ?_
  refine lv_aload_n hx hb dX4_turn_69 rfl (lv_at hl 1 rfl) ?_
  refine r_get (C := RX4) (T := TX4) (M := 9) (index := 16) (fd := "set") (fo := "[I") hx hb hts (by decide +kernel) hown hK hP 0 (by decide) mF_0 rfl 3 (by decide) rfl (by decide +kernel) rfl dX4_turn_70 ?_
  refine lv_iload_n hx hb dX4_turn_73 rfl (lv_at hl 2 rfl) ?_
  refine lv_iload_n hx hb dX4_turn_74 rfl (lv_at hl 3 rfl) ?_
  refine lv_iload_n hx hb dX4_turn_75 rfl (lv_at hl 4 rfl) ?_
  refine k_Ri (va_runS (As := [.int (nI c), .int (nI v), .int (nI k)]) (rest := [.ref (ad 3), .int (nI k), .int (nI v), .int (nI c), .ref (ad 0)]) hF (c_X4_at l c v k (by omega) (by omega) hk) (va_cwS 3 hts gX4_turn_X4_at rfl rfl rfl (by decide +kernel) ⟨(Nat.le_of_ble_eq_true rfl), (Nat.le_of_ble_eq_true rfl)⟩) k_preS rfl rfl hl.1 rfl (lv_room (Nat.le_of_ble_eq_true rfl)) dX4_turn_76 ⟨Nat.zero_le _, Nat.zero_le _⟩) ?_
  refine r_iald hx hb hK hP 3 0 (by omega) mF_3 rfl (i := 6 * c + 2 * v + k) (by omega) (by decide) dX4_turn_79 ?_
  refine lv_iconst (v := nI 1) hx hb dX4_turn_80 (by decide) ?_
  refine lv_iload hx hb dX4_turn_81 (lv_at hl 5 rfl) ?_
  refine r_bit hx hb dX4_turn_83 ?_
  refine lv_ixor hx hb dX4_turn_84 ?_
  refine k_Wv (va_runV (As := [.int (nI c), .int (nI v), .int (nI k), .int ((y 3 (6 * c + 2 * v + k)) ^^^ (bit w))]) (rest := []) hF (c_X4_sets l D cI cA ad (nI 0) n y c v k ((y 3 (6 * c + 2 * v + k)) ^^^ (bit w)) (by omega) (by omega) hk hn) (cwV 4 hts gX4_turn_X4_sets rfl rfl rfl (by decide +kernel) ⟨(Nat.le_of_ble_eq_true rfl), (Nat.le_of_ble_eq_true rfl)⟩) (k_pre hP hK hD hT (k := 0) (by decide) mF_0 rfl) rfl rfl hl.1 rfl (lv_room (Nat.le_of_ble_eq_true rfl)) dX4_turn_85 ⟨Nat.zero_le _, Nat.zero_le _⟩) hD hS (fun H locs hP hS => ?_)
  refine lv_aload_n hx hb dX4_turn_88 rfl (lv_at hl 1 rfl) ?_
  refine r_get (C := RX4) (T := TX4) (M := 9) (index := 16) (fd := "set") (fo := "[I") hx hb hts (by decide +kernel) hown hK hP 0 (by decide) mF_0 rfl 3 (by decide) rfl (by decide +kernel) rfl dX4_turn_89 ?_
  refine lv_iload_n hx hb dX4_turn_92 rfl (lv_at hl 2 rfl) ?_
  refine lv_iload_n hx hb dX4_turn_93 rfl (lv_at hl 3 rfl) ?_
  refine lv_iload_n hx hb dX4_turn_94 rfl (lv_at hl 4 rfl) ?_
  refine k_Ri (va_runS (As := [.int (nI c), .int (nI v), .int (nI k)]) (rest := [.ref (ad 3)]) hF (c_X4_at l c v k (by omega) (by omega) hk) (va_cwS 3 hts gX4_turn_X4_at rfl rfl rfl (by decide +kernel) ⟨(Nat.le_of_ble_eq_true rfl), (Nat.le_of_ble_eq_true rfl)⟩) k_preS rfl rfl hl.1 rfl (lv_room (Nat.le_of_ble_eq_true rfl)) dX4_turn_95 ⟨Nat.zero_le _, Nat.zero_le _⟩) ?_
  refine r_iald hx hb hK hP 3 0 (by omega) mF_3 rfl (i := 6 * c + 2 * v + k) (by omega) (by decide) dX4_turn_98 ?_
  refine lv_iload hx hb dX4_turn_99 (lv_at hl 5 rfl) ?_
  refine k_Ri (va_runS (As := [.int ((mputS y n c v k ((y 3 (6 * c + 2 * v + k)) ^^^ (bit w))) 3 (6 * c + 2 * v + k)), .int (nI w)]) (rest := []) hF (c_X4_has l w ((mputS y n c v k ((y 3 (6 * c + 2 * v + k)) ^^^ (bit w))) 3 (6 * c + 2 * v + k)) (by omega)) (va_cwS 2 hts gX4_turn_X4_has rfl rfl rfl (by decide +kernel) ⟨(Nat.le_of_ble_eq_true rfl), (Nat.le_of_ble_eq_true rfl)⟩) k_preS rfl rfl hl.1 rfl (lv_room (Nat.le_of_ble_eq_true rfl)) dX4_turn_101 ⟨Nat.zero_le _, Nat.zero_le _⟩) ?_
  exact hret _ _ _ _ _ _ hP hS dX4_turn_104 (rfl) (rfl)
set_option maxHeartbeats 4000000 in
set_option maxRecDepth 100000 in
theorem m_turn_1 (l : Launch) (D : va_G) (cI : ClassId) (cA : ClassId) (ad : Nat → Nat) (th : Int32) (n : Nat) (y : Nat → Nat → Int32) (a : Int32) (v : Int32) (k : Int32) (w : Int32) (hca : cardB n a = false) (hn : n ≤ 24) : Met l yX4_turn wsX4_turn ({ frames := 2, cells := 0, slots := 0, locals := 43 }) (va_Pc [.ref (ad 0), .int a, .int v, .int k, .int w] (mX D cI cA ad th n y)) (qW D ad (mF cI ad (nI 1) n y) 8 (some (.int (bI false)))) 0 0 (wA ad 8) := by
  refine c_ofW (cc := cX4_turn) (maxL := 6) (ret := .boolean) (by decide) rfl (nar_bI _) (Nat.le_of_ble_eq_true rfl) ?_
  intro p e s m av below meth cd Q hx hb hF hP hK hD hT hret ls hl
  have hown : s.vm.findClass RX4 = some m.cls := hF.2.2.2.1
  have hF : CallFix p m cd cX4_turn 6 s av wsX4_turn RX4 := hF
  have hts := hF.2.2.2.2
  have hl : lv_has ls 6 [(0, .ref (ad 0)), (1, .int a), (2, .int v), (3, .int k), (4, .int w)] := hl
  obtain ⟨H, eH⟩ : ∃ H9 : Heap, H9 = s.heap := ⟨_, rfl⟩
  obtain ⟨locs, eL⟩ : ∃ L9 : List Loc, L9 = [] := ⟨_, rfl⟩
  have hS : sS (wA ad 8) s.heap H locs := by rw [eH, eL]; exact sS.rf
  rw [← eH] at hP
  suffices hgo : W p l e ({ frames := 2, cells := 0, slots := 0, locals := 43 }) s m av below meth cd H locs 0 0 Q (F0 m 0 ls []) by rw [eH, eL] at hgo; exact hgo
  clear eH eL
  refine lv_iload_n hx hb dX4_turn_0 rfl (lv_at hl 2 rfl) ?_
  refine lv_iconst (v := nI 0) hx hb dX4_turn_1 (by decide) ?_
  refine lv_iconst (v := nI 1) hx hb dX4_turn_2 (by decide) ?_
  refine k_Ri (va_runS (As := [.int v, .int (nI 0), .int (nI 1)]) (rest := []) hF (c_X4_isIn l v (nI 0) (nI 1)) (va_cwS 3 hts gX4_turn_X4_isIn rfl rfl rfl (by decide +kernel) ⟨(Nat.le_of_ble_eq_true rfl), (Nat.le_of_ble_eq_true rfl)⟩) k_preS rfl rfl hl.1 rfl (lv_room (Nat.le_of_ble_eq_true rfl)) dX4_turn_3 ⟨Nat.zero_le _, Nat.zero_le _⟩) ?_
  have hJ32 : ∀ (H : Heap) (locs : List Loc), va_P D vwCl (wl ad (mF cI ad th n y) 8) H → sS (wA ad 8) s.heap H locs → ∀ ls : Array Slot, lv_has ls 6 [(0, .ref (ad 0)), (1, .int a), (2, .int v), (3, .int k), (4, .int w)] → W p l e ({ frames := 2, cells := 0, slots := 0, locals := 43 }) s m av below meth cd H locs 0 0 Q (F0 m 32 ls [.int (bI (chgB v && kindB k && valueB w))]) := by
    intro H locs hP hS ls hl
    refine lv_istore (lv' := [(5, .int (bI (chgB v && kindB k && valueB w))), (0, .ref (ad 0)), (1, .int a), (2, .int v), (3, .int k), (4, .int w)]) hx hb dX4_turn_32 hl (by decide) rfl (fun ls hl => ?_)
    refine lv_aload_n hx hb dX4_turn_34 rfl (lv_at hl 1 rfl) ?_
    refine lv_aload_n hx hb dX4_turn_35 rfl (lv_at hl 1 rfl) ?_
    refine lv_iload_n hx hb dX4_turn_36 rfl (lv_at hl 2 rfl) ?_
    refine k_Ri (va_runV (As := [.int a]) (rest := [.ref (ad 0)]) hF (c_X4_isCard l D cI cA ad th n y a hn) (cwV 1 hts gX4_turn_X4_isCard rfl rfl rfl (by decide +kernel) ⟨(Nat.le_of_ble_eq_true rfl), (Nat.le_of_ble_eq_true rfl)⟩) (k_pre hP hK hD hT (k := 0) (by decide) mF_0 rfl) rfl rfl hl.1 rfl (lv_room (Nat.le_of_ble_eq_true rfl)) dX4_turn_37 ⟨Nat.zero_le _, Nat.zero_le _⟩) ?_
    refine r_topi (show bI (cardB n a) = bI false from congrArg bI (hca)) ?_
    refine r_ifneB (b := false) (tgt := 47) hx hb dX4_turn_40 (by decide) (fun h => absurd h (by decide)) (fun _ => ?_)
    refine lv_iconst (v := nI 1) hx hb dX4_turn_43 (by decide) ?_
    refine lv_goto (tgt := 57) hx hb dX4_turn_44 (by decide) ?_
    refine k_Wi (va_runV (As := [.int (nI 1)]) (rest := []) hF (c_X4_isFine_1 l D cI cA ad th n y) (cwV 1 hts gX4_turn_X4_isFine rfl rfl rfl (by decide +kernel) ⟨(Nat.le_of_ble_eq_true rfl), (Nat.le_of_ble_eq_true rfl)⟩) (k_pre hP hK hD hT (k := 0) (by decide) mF_0 rfl) rfl rfl hl.1 rfl (lv_room (Nat.le_of_ble_eq_true rfl)) dX4_turn_57 ⟨Nat.zero_le _, Nat.zero_le _⟩) hD hS (fun H locs hP hS => ?_)
    refine r_ifneB (b := false) (tgt := 65) hx hb dX4_turn_60 (by decide) (fun h => absurd h (by decide)) (fun _ => ?_)
    refine lv_iconst (v := nI 0) hx hb dX4_turn_63 (by decide) ?_
    exact hret _ _ _ _ _ _ hP hS dX4_turn_64 (rfl) (rfl)
  refine r_topi (show bI (inB v (nI 0) (nI 1)) = bI (chgB v) from congrArg bI inB_chg) ?_
  refine r_ifeqB (b := chgB v) (tgt := 31) hx hb dX4_turn_6 (by decide) (fun h6_3 => ?_) (fun h6_3 => ?_)
  · refine lv_iconst (v := nI 0) hx hb dX4_turn_31 (by decide) ?_
    refine r_topi (show (nI 0 : Int32) = bI (chgB v && kindB k && valueB w) from by simp [bI, h6_3]) ?_
    exact hJ32 _ _ hP hS _ (lv_sub hl [0, 1, 2, 3, 4] rfl)
  · refine lv_iload_n hx hb dX4_turn_9 rfl (lv_at hl 3 rfl) ?_
    refine k_Ri (va_runS (As := [.int k]) (rest := []) hF (c_X4_isKind l k) (va_cwS 1 hts gX4_turn_X4_isKind rfl rfl rfl (by decide +kernel) ⟨(Nat.le_of_ble_eq_true rfl), (Nat.le_of_ble_eq_true rfl)⟩) k_preS rfl rfl hl.1 rfl (lv_room (Nat.le_of_ble_eq_true rfl)) dX4_turn_10 ⟨Nat.zero_le _, Nat.zero_le _⟩) ?_
    refine r_ifeqB (b := kindB k) (tgt := 31) hx hb dX4_turn_13 (by decide) (fun h13_4 => ?_) (fun h13_4 => ?_)
    · refine lv_iconst (v := nI 0) hx hb dX4_turn_31 (by decide) ?_
      refine r_topi (show (nI 0 : Int32) = bI (chgB v && kindB k && valueB w) from by simp [bI, h6_3, h13_4]) ?_
      exact hJ32 _ _ hP hS _ (lv_sub hl [0, 1, 2, 3, 4] rfl)
    · refine lv_iload hx hb dX4_turn_16 (lv_at hl 4 rfl) ?_
      refine lv_iconst (v := nI 0) hx hb dX4_turn_18 (by decide) ?_
      refine lv_bipush (v := nI 29) hx hb dX4_turn_19 (by decide) ?_
      refine k_Ri (va_runS (As := [.int w, .int (nI 0), .int (nI 29)]) (rest := []) hF (c_X4_isIn l w (nI 0) (nI 29)) (va_cwS 3 hts gX4_turn_X4_isIn rfl rfl rfl (by decide +kernel) ⟨(Nat.le_of_ble_eq_true rfl), (Nat.le_of_ble_eq_true rfl)⟩) k_preS rfl rfl hl.1 rfl (lv_room (Nat.le_of_ble_eq_true rfl)) dX4_turn_21 ⟨Nat.zero_le _, Nat.zero_le _⟩) ?_
      refine r_topi (show bI (inB w (nI 0) (nI 29)) = bI (valueB w) from congrArg bI inB_value) ?_
      refine r_ifeqB (b := valueB w) (tgt := 31) hx hb dX4_turn_24 (by decide) (fun h24_5 => ?_) (fun h24_5 => ?_)
      · refine lv_iconst (v := nI 0) hx hb dX4_turn_31 (by decide) ?_
        refine r_topi (show (nI 0 : Int32) = bI (chgB v && kindB k && valueB w) from by simp [bI, h6_3, h13_4, h24_5]) ?_
        exact hJ32 _ _ hP hS _ (lv_sub hl [0, 1, 2, 3, 4] rfl)
      · refine lv_iconst (v := nI 1) hx hb dX4_turn_27 (by decide) ?_
        refine lv_goto (tgt := 32) hx hb dX4_turn_28 (by decide) ?_
        refine r_topi (show (nI 1 : Int32) = bI (chgB v && kindB k && valueB w) from by simp [bI, h6_3, h13_4, h24_5]) ?_
        exact hJ32 _ _ hP hS _ (lv_sub hl [0, 1, 2, 3, 4] rfl)
set_option maxHeartbeats 4000000 in
set_option maxRecDepth 100000 in
theorem m_turn_2 (l : Launch) (D : va_G) (cI : ClassId) (cA : ClassId) (ad : Nat → Nat) (th : Int32) (n : Nat) (y : Nat → Nat → Int32) (c : Nat) (v : Int32) (k : Int32) (w : Int32) (hc : c < n) (hn : n ≤ 24) (hbad : (chgB v && kindB k && valueB w) = false) : Met l yX4_turn wsX4_turn ({ frames := 2, cells := 0, slots := 0, locals := 43 }) (va_Pc [.ref (ad 0), .int (nI c), .int v, .int k, .int w] (mX D cI cA ad th n y)) (qW D ad (mF cI ad (nI 2) n y) 8 (some (.int (bI false)))) 0 0 (wA ad 8) := by
  refine c_ofW (cc := cX4_turn) (maxL := 6) (ret := .boolean) (by decide) rfl (nar_bI _) (Nat.le_of_ble_eq_true rfl) ?_
  intro p e s m av below meth cd Q hx hb hF hP hK hD hT hret ls hl
  have hown : s.vm.findClass RX4 = some m.cls := hF.2.2.2.1
  have hF : CallFix p m cd cX4_turn 6 s av wsX4_turn RX4 := hF
  have hts := hF.2.2.2.2
  have hl : lv_has ls 6 [(0, .ref (ad 0)), (1, .int (nI c)), (2, .int v), (3, .int k), (4, .int w)] := hl
  obtain ⟨H, eH⟩ : ∃ H9 : Heap, H9 = s.heap := ⟨_, rfl⟩
  obtain ⟨locs, eL⟩ : ∃ L9 : List Loc, L9 = [] := ⟨_, rfl⟩
  have hS : sS (wA ad 8) s.heap H locs := by rw [eH, eL]; exact sS.rf
  rw [← eH] at hP
  suffices hgo : W p l e ({ frames := 2, cells := 0, slots := 0, locals := 43 }) s m av below meth cd H locs 0 0 Q (F0 m 0 ls []) by rw [eH, eL] at hgo; exact hgo
  clear eH eL
  refine lv_iload_n hx hb dX4_turn_0 rfl (lv_at hl 2 rfl) ?_
  refine lv_iconst (v := nI 0) hx hb dX4_turn_1 (by decide) ?_
  refine lv_iconst (v := nI 1) hx hb dX4_turn_2 (by decide) ?_
  refine k_Ri (va_runS (As := [.int v, .int (nI 0), .int (nI 1)]) (rest := []) hF (c_X4_isIn l v (nI 0) (nI 1)) (va_cwS 3 hts gX4_turn_X4_isIn rfl rfl rfl (by decide +kernel) ⟨(Nat.le_of_ble_eq_true rfl), (Nat.le_of_ble_eq_true rfl)⟩) k_preS rfl rfl hl.1 rfl (lv_room (Nat.le_of_ble_eq_true rfl)) dX4_turn_3 ⟨Nat.zero_le _, Nat.zero_le _⟩) ?_
  have hJ32 : ∀ (H : Heap) (locs : List Loc), va_P D vwCl (wl ad (mF cI ad th n y) 8) H → sS (wA ad 8) s.heap H locs → ∀ ls : Array Slot, lv_has ls 6 [(0, .ref (ad 0)), (1, .int (nI c)), (2, .int v), (3, .int k), (4, .int w)] → W p l e ({ frames := 2, cells := 0, slots := 0, locals := 43 }) s m av below meth cd H locs 0 0 Q (F0 m 32 ls [.int (bI (chgB v && kindB k && valueB w))]) := by
    intro H locs hP hS ls hl
    refine lv_istore (lv' := [(5, .int (bI (chgB v && kindB k && valueB w))), (0, .ref (ad 0)), (1, .int (nI c)), (2, .int v), (3, .int k), (4, .int w)]) hx hb dX4_turn_32 hl (by decide) rfl (fun ls hl => ?_)
    refine lv_aload_n hx hb dX4_turn_34 rfl (lv_at hl 1 rfl) ?_
    refine lv_aload_n hx hb dX4_turn_35 rfl (lv_at hl 1 rfl) ?_
    refine lv_iload_n hx hb dX4_turn_36 rfl (lv_at hl 2 rfl) ?_
    refine k_Ri (va_runV (As := [.int (nI c)]) (rest := [.ref (ad 0)]) hF (c_X4_isCard l D cI cA ad th n y (nI c) hn) (cwV 1 hts gX4_turn_X4_isCard rfl rfl rfl (by decide +kernel) ⟨(Nat.le_of_ble_eq_true rfl), (Nat.le_of_ble_eq_true rfl)⟩) (k_pre hP hK hD hT (k := 0) (by decide) mF_0 rfl) rfl rfl hl.1 rfl (lv_room (Nat.le_of_ble_eq_true rfl)) dX4_turn_37 ⟨Nat.zero_le _, Nat.zero_le _⟩) ?_
    refine r_topi (show bI (cardB n (nI c)) = bI true from congrArg bI (cardB_ok hc hn)) ?_
    refine r_ifneB (b := true) (tgt := 47) hx hb dX4_turn_40 (by decide) (fun _ => ?_) (fun h => absurd h (by decide))
    refine lv_iload hx hb dX4_turn_47 (lv_at hl 0 rfl) ?_
    refine r_ifneB (b := chgB v && kindB k && valueB w) (tgt := 56) hx hb dX4_turn_49 (by decide) (fun h => absurd (h.symm.trans hbad) (by decide)) (fun _ => ?_)
    refine lv_iconst (v := nI 2) hx hb dX4_turn_52 (by decide) ?_
    refine lv_goto (tgt := 57) hx hb dX4_turn_53 (by decide) ?_
    refine k_Wi (va_runV (As := [.int (nI 2)]) (rest := []) hF (c_X4_isFine_2 l D cI cA ad th n y) (cwV 1 hts gX4_turn_X4_isFine rfl rfl rfl (by decide +kernel) ⟨(Nat.le_of_ble_eq_true rfl), (Nat.le_of_ble_eq_true rfl)⟩) (k_pre hP hK hD hT (k := 0) (by decide) mF_0 rfl) rfl rfl hl.1 rfl (lv_room (Nat.le_of_ble_eq_true rfl)) dX4_turn_57 ⟨Nat.zero_le _, Nat.zero_le _⟩) hD hS (fun H locs hP hS => ?_)
    refine r_ifneB (b := false) (tgt := 65) hx hb dX4_turn_60 (by decide) (fun h => absurd h (by decide)) (fun _ => ?_)
    refine lv_iconst (v := nI 0) hx hb dX4_turn_63 (by decide) ?_
    exact hret _ _ _ _ _ _ hP hS dX4_turn_64 (rfl) (rfl)
  refine r_topi (show bI (inB v (nI 0) (nI 1)) = bI (chgB v) from congrArg bI inB_chg) ?_
  refine r_ifeqB (b := chgB v) (tgt := 31) hx hb dX4_turn_6 (by decide) (fun h6_4 => ?_) (fun h6_4 => ?_)
  · refine lv_iconst (v := nI 0) hx hb dX4_turn_31 (by decide) ?_
    refine r_topi (show (nI 0 : Int32) = bI (chgB v && kindB k && valueB w) from by simp [bI, h6_4]) ?_
    exact hJ32 _ _ hP hS _ (lv_sub hl [0, 1, 2, 3, 4] rfl)
  · refine lv_iload_n hx hb dX4_turn_9 rfl (lv_at hl 3 rfl) ?_
    refine k_Ri (va_runS (As := [.int k]) (rest := []) hF (c_X4_isKind l k) (va_cwS 1 hts gX4_turn_X4_isKind rfl rfl rfl (by decide +kernel) ⟨(Nat.le_of_ble_eq_true rfl), (Nat.le_of_ble_eq_true rfl)⟩) k_preS rfl rfl hl.1 rfl (lv_room (Nat.le_of_ble_eq_true rfl)) dX4_turn_10 ⟨Nat.zero_le _, Nat.zero_le _⟩) ?_
    refine r_ifeqB (b := kindB k) (tgt := 31) hx hb dX4_turn_13 (by decide) (fun h13_5 => ?_) (fun h13_5 => ?_)
    · refine lv_iconst (v := nI 0) hx hb dX4_turn_31 (by decide) ?_
      refine r_topi (show (nI 0 : Int32) = bI (chgB v && kindB k && valueB w) from by simp [bI, h6_4, h13_5]) ?_
      exact hJ32 _ _ hP hS _ (lv_sub hl [0, 1, 2, 3, 4] rfl)
    · refine lv_iload hx hb dX4_turn_16 (lv_at hl 4 rfl) ?_
      refine lv_iconst (v := nI 0) hx hb dX4_turn_18 (by decide) ?_
      refine lv_bipush (v := nI 29) hx hb dX4_turn_19 (by decide) ?_
      refine k_Ri (va_runS (As := [.int w, .int (nI 0), .int (nI 29)]) (rest := []) hF (c_X4_isIn l w (nI 0) (nI 29)) (va_cwS 3 hts gX4_turn_X4_isIn rfl rfl rfl (by decide +kernel) ⟨(Nat.le_of_ble_eq_true rfl), (Nat.le_of_ble_eq_true rfl)⟩) k_preS rfl rfl hl.1 rfl (lv_room (Nat.le_of_ble_eq_true rfl)) dX4_turn_21 ⟨Nat.zero_le _, Nat.zero_le _⟩) ?_
      refine r_topi (show bI (inB w (nI 0) (nI 29)) = bI (valueB w) from congrArg bI inB_value) ?_
      refine r_ifeqB (b := valueB w) (tgt := 31) hx hb dX4_turn_24 (by decide) (fun h24_6 => ?_) (fun h24_6 => ?_)
      · refine lv_iconst (v := nI 0) hx hb dX4_turn_31 (by decide) ?_
        refine r_topi (show (nI 0 : Int32) = bI (chgB v && kindB k && valueB w) from by simp [bI, h6_4, h13_5, h24_6]) ?_
        exact hJ32 _ _ hP hS _ (lv_sub hl [0, 1, 2, 3, 4] rfl)
      · refine lv_iconst (v := nI 1) hx hb dX4_turn_27 (by decide) ?_
        refine lv_goto (tgt := 32) hx hb dX4_turn_28 (by decide) ?_
        refine r_topi (show (nI 1 : Int32) = bI (chgB v && kindB k && valueB w) from by simp [bI, h6_4, h13_5, h24_6]) ?_
        exact hJ32 _ _ hP hS _ (lv_sub hl [0, 1, 2, 3, 4] rfl)
set_option maxHeartbeats 4000000 in
set_option maxRecDepth 100000 in
theorem m_rename_0 (l : Launch) (D : va_G) (cI : ClassId) (cA : ClassId) (ad : Nat → Nat) (th : Int32) (n : Nat) (y : Nat → Nat → Int32) (c : Nat) (v : Nat) (w : Int32) (hc : c < n) (hn : n ≤ 24) (hv : v < 2) (hnm : nameB w = true) : Met l yX4_rename wsX4_rename ({ frames := 2, cells := 0, slots := 0, locals := 45 }) (va_Pc [.ref (ad 0), .int (nI c), .int (nI v), .int w] (mX D cI cA ad th n y)) (qW D ad (mF cI ad (nI 0) n (mputN y n c v w)) 8 (some (.int (y 2 (3 * c + v))))) 0 0 (wA ad 8) := by
  refine c_ofW (cc := cX4_rename) (maxL := 6) (ret := .int) (by decide) rfl rfl (Nat.le_of_ble_eq_true rfl) ?_
  intro p e s m av below meth cd Q hx hb hF hP hK hD hT hret ls hl
  have hown : s.vm.findClass RX4 = some m.cls := hF.2.2.2.1
  have hF : CallFix p m cd cX4_rename 6 s av wsX4_rename RX4 := hF
  have hts := hF.2.2.2.2
  have hl : lv_has ls 6 [(0, .ref (ad 0)), (1, .int (nI c)), (2, .int (nI v)), (3, .int w)] := hl
  obtain ⟨H, eH⟩ : ∃ H9 : Heap, H9 = s.heap := ⟨_, rfl⟩
  obtain ⟨locs, eL⟩ : ∃ L9 : List Loc, L9 = [] := ⟨_, rfl⟩
  have hS : sS (wA ad 8) s.heap H locs := by rw [eH, eL]; exact sS.rf
  rw [← eH] at hP
  suffices hgo : W p l e ({ frames := 2, cells := 0, slots := 0, locals := 45 }) s m av below meth cd H locs 0 0 Q (F0 m 0 ls []) by rw [eH, eL] at hgo; exact hgo
  clear eH eL
  refine lv_iload_n hx hb dX4_rename_0 rfl (lv_at hl 2 rfl) ?_
  refine lv_iconst (v := nI 0) hx hb dX4_rename_1 (by decide) ?_
  refine lv_iconst (v := nI 1) hx hb dX4_rename_2 (by decide) ?_
  refine k_Ri (va_runS (As := [.int (nI v), .int (nI 0), .int (nI 1)]) (rest := []) hF (c_X4_isIn l (nI v) (nI 0) (nI 1)) (va_cwS 3 hts gX4_rename_X4_isIn rfl rfl rfl (by decide +kernel) ⟨(Nat.le_of_ble_eq_true rfl), (Nat.le_of_ble_eq_true rfl)⟩) k_preS rfl rfl hl.1 rfl (lv_room (Nat.le_of_ble_eq_true rfl)) dX4_rename_3 ⟨Nat.zero_le _, Nat.zero_le _⟩) ?_
  refine r_topi (show bI (inB (nI v) (nI 0) (nI 1)) = bI true from congrArg bI (inB_chg.trans (chgB_ok hv))) ?_
  refine r_ifeqB (b := true) (tgt := 23) hx hb dX4_rename_6 (by decide) (fun h => absurd h (by decide)) (fun _ => ?_)
  refine lv_iload_n hx hb dX4_rename_9 rfl (lv_at hl 3 rfl) ?_
  refine lv_iconst (v := nI 0) hx hb dX4_rename_10 (by decide) ?_
  refine lv_bipush (v := nI 31) hx hb dX4_rename_11 (by decide) ?_
  refine k_Ri (va_runS (As := [.int w, .int (nI 0), .int (nI 31)]) (rest := []) hF (c_X4_isIn l w (nI 0) (nI 31)) (va_cwS 3 hts gX4_rename_X4_isIn rfl rfl rfl (by decide +kernel) ⟨(Nat.le_of_ble_eq_true rfl), (Nat.le_of_ble_eq_true rfl)⟩) k_preS rfl rfl hl.1 rfl (lv_room (Nat.le_of_ble_eq_true rfl)) dX4_rename_13 ⟨Nat.zero_le _, Nat.zero_le _⟩) ?_
  refine r_topi (show bI (inB w (nI 0) (nI 31)) = bI true from congrArg bI (inB_name.trans hnm)) ?_
  refine r_ifeqB (b := true) (tgt := 23) hx hb dX4_rename_16 (by decide) (fun h => absurd h (by decide)) (fun _ => ?_)
  refine lv_iconst (v := nI 1) hx hb dX4_rename_19 (by decide) ?_
  refine lv_goto (tgt := 24) hx hb dX4_rename_20 (by decide) ?_
  refine lv_istore (lv' := [(4, .int (nI 1)), (0, .ref (ad 0)), (1, .int (nI c)), (2, .int (nI v)), (3, .int w)]) hx hb dX4_rename_24 hl (by decide) rfl (fun ls hl => ?_)
  refine lv_aload_n hx hb dX4_rename_26 rfl (lv_at hl 1 rfl) ?_
  refine lv_aload_n hx hb dX4_rename_27 rfl (lv_at hl 1 rfl) ?_
  refine lv_iload_n hx hb dX4_rename_28 rfl (lv_at hl 2 rfl) ?_
  refine k_Ri (va_runV (As := [.int (nI c)]) (rest := [.ref (ad 0)]) hF (c_X4_isCard l D cI cA ad th n y (nI c) hn) (cwV 1 hts gX4_rename_X4_isCard rfl rfl rfl (by decide +kernel) ⟨(Nat.le_of_ble_eq_true rfl), (Nat.le_of_ble_eq_true rfl)⟩) (k_pre hP hK hD hT (k := 0) (by decide) mF_0 rfl) rfl rfl hl.1 rfl (lv_room (Nat.le_of_ble_eq_true rfl)) dX4_rename_29 ⟨Nat.zero_le _, Nat.zero_le _⟩) ?_
  refine r_topi (show bI (cardB n (nI c)) = bI true from congrArg bI (cardB_ok hc hn)) ?_
  refine r_ifneB (b := true) (tgt := 39) hx hb dX4_rename_32 (by decide) (fun _ => ?_) (fun h => absurd h (by decide))
  refine lv_iload hx hb dX4_rename_39 (lv_at hl 0 rfl) ?_
  refine r_ifneN (a := 1) (tgt := 48) hx hb (by omega) dX4_rename_41 (by decide) (fun _ => ?_) (fun h => absurd h (by omega))
  refine lv_iconst (v := nI 0) hx hb dX4_rename_48 (by decide) ?_
  refine k_Wi (va_runV (As := [.int (nI 0)]) (rest := []) hF (c_X4_isFine_0 l D cI cA ad th n y) (cwV 1 hts gX4_rename_X4_isFine rfl rfl rfl (by decide +kernel) ⟨(Nat.le_of_ble_eq_true rfl), (Nat.le_of_ble_eq_true rfl)⟩) (k_pre hP hK hD hT (k := 0) (by decide) mF_0 rfl) rfl rfl hl.1 rfl (lv_room (Nat.le_of_ble_eq_true rfl)) dX4_rename_49 ⟨Nat.zero_le _, Nat.zero_le _⟩) hD hS (fun H locs hP hS => ?_)
  refine r_ifneB (b := true) (tgt := 57) hx hb dX4_rename_52 (by decide) (fun _ => ?_) (fun h => absurd h (by decide))
  refine lv_aload_n hx hb dX4_rename_57 rfl (lv_at hl 1 rfl) ?_
  refine r_get (C := RX4) (T := TX4) (M := 9) (index := 13) (fd := "name") (fo := "[I") hx hb hts (by decide +kernel) hown hK hP 0 (by decide) mF_0 rfl 2 (by decide) rfl (by decide +kernel) rfl dX4_rename_58 ?_
  refine lv_iconst (v := nI 3) hx hb dX4_rename_61 (by decide) ?_
  refine lv_iload_n hx hb dX4_rename_62 rfl (lv_at hl 2 rfl) ?_
  refine r_mulN (a := 3) (b := c) (r := 3 * c) hx hb dX4_rename_63 (by omega) ?_
  refine lv_iload_n hx hb dX4_rename_64 rfl (lv_at hl 3 rfl) ?_
  refine r_addN (a := 3 * c) (b := v) (r := 3 * c + v) hx hb dX4_rename_65 (by omega) ?_
  refine r_iald hx hb hK hP 2 0 (by omega) mF_2 rfl (i := 3 * c + v) (by omega) (by decide) dX4_rename_66 ?_
  refine lv_istore (lv' := [(5, .int (y 2 (3 * c + v))), (4, .int (nI 1)), (0, .ref (ad 0)), (1, .int (nI c)), (2, .int (nI v)), (3, .int w)]) hx hb dX4_rename_67 hl (by decide) rfl (fun ls hl => ?_)
  refine lv_aload_n hx hb dX4_rename_69 rfl (lv_at hl 2 rfl) ?_
  refine lv_iload_n hx hb dX4_rename_70 rfl (lv_at hl 3 rfl) ?_
  refine lv_iload_n hx hb dX4_rename_71 rfl (lv_at hl 4 rfl) ?_
  refine lv_iload_n hx hb dX4_rename_72 rfl (lv_at hl 5 rfl) ?_
  refine k_Wv (va_runV (As := [.int (nI c), .int (nI v), .int w]) (rest := []) hF (c_X4_names l D cI cA ad (nI 0) n y c v w (by omega) (by omega) hn) (cwV 3 hts gX4_rename_X4_names rfl rfl rfl (by decide +kernel) ⟨(Nat.le_of_ble_eq_true rfl), (Nat.le_of_ble_eq_true rfl)⟩) (k_pre hP hK hD hT (k := 0) (by decide) mF_0 rfl) rfl rfl hl.1 rfl (lv_room (Nat.le_of_ble_eq_true rfl)) dX4_rename_73 ⟨Nat.zero_le _, Nat.zero_le _⟩) hD hS (fun H locs hP hS => ?_)
  refine lv_iload hx hb dX4_rename_76 (lv_at hl 0 rfl) ?_
  exact hret _ _ _ _ _ _ hP hS dX4_rename_78 (rfl) (rfl)
set_option maxHeartbeats 4000000 in
set_option maxRecDepth 100000 in
theorem m_rename_1 (l : Launch) (D : va_G) (cI : ClassId) (cA : ClassId) (ad : Nat → Nat) (th : Int32) (n : Nat) (y : Nat → Nat → Int32) (a : Int32) (v : Int32) (w : Int32) (hca : cardB n a = false) (hn : n ≤ 24) : Met l yX4_rename wsX4_rename ({ frames := 2, cells := 0, slots := 0, locals := 43 }) (va_Pc [.ref (ad 0), .int a, .int v, .int w] (mX D cI cA ad th n y)) (qW D ad (mF cI ad (nI 1) n y) 8 (some (.int (nI 0)))) 0 0 (wA ad 8) := by
  refine c_ofW (cc := cX4_rename) (maxL := 6) (ret := .int) (by decide) rfl rfl (Nat.le_of_ble_eq_true rfl) ?_
  intro p e s m av below meth cd Q hx hb hF hP hK hD hT hret ls hl
  have hown : s.vm.findClass RX4 = some m.cls := hF.2.2.2.1
  have hF : CallFix p m cd cX4_rename 6 s av wsX4_rename RX4 := hF
  have hts := hF.2.2.2.2
  have hl : lv_has ls 6 [(0, .ref (ad 0)), (1, .int a), (2, .int v), (3, .int w)] := hl
  obtain ⟨H, eH⟩ : ∃ H9 : Heap, H9 = s.heap := ⟨_, rfl⟩
  obtain ⟨locs, eL⟩ : ∃ L9 : List Loc, L9 = [] := ⟨_, rfl⟩
  have hS : sS (wA ad 8) s.heap H locs := by rw [eH, eL]; exact sS.rf
  rw [← eH] at hP
  suffices hgo : W p l e ({ frames := 2, cells := 0, slots := 0, locals := 43 }) s m av below meth cd H locs 0 0 Q (F0 m 0 ls []) by rw [eH, eL] at hgo; exact hgo
  clear eH eL
  refine lv_iload_n hx hb dX4_rename_0 rfl (lv_at hl 2 rfl) ?_
  refine lv_iconst (v := nI 0) hx hb dX4_rename_1 (by decide) ?_
  refine lv_iconst (v := nI 1) hx hb dX4_rename_2 (by decide) ?_
  refine k_Ri (va_runS (As := [.int v, .int (nI 0), .int (nI 1)]) (rest := []) hF (c_X4_isIn l v (nI 0) (nI 1)) (va_cwS 3 hts gX4_rename_X4_isIn rfl rfl rfl (by decide +kernel) ⟨(Nat.le_of_ble_eq_true rfl), (Nat.le_of_ble_eq_true rfl)⟩) k_preS rfl rfl hl.1 rfl (lv_room (Nat.le_of_ble_eq_true rfl)) dX4_rename_3 ⟨Nat.zero_le _, Nat.zero_le _⟩) ?_
  have hJ24 : ∀ (H : Heap) (locs : List Loc), va_P D vwCl (wl ad (mF cI ad th n y) 8) H → sS (wA ad 8) s.heap H locs → ∀ ls : Array Slot, lv_has ls 6 [(0, .ref (ad 0)), (1, .int a), (2, .int v), (3, .int w)] → W p l e ({ frames := 2, cells := 0, slots := 0, locals := 43 }) s m av below meth cd H locs 0 0 Q (F0 m 24 ls [.int (bI (chgB v && nameB w))]) := by
    intro H locs hP hS ls hl
    refine lv_istore (lv' := [(4, .int (bI (chgB v && nameB w))), (0, .ref (ad 0)), (1, .int a), (2, .int v), (3, .int w)]) hx hb dX4_rename_24 hl (by decide) rfl (fun ls hl => ?_)
    refine lv_aload_n hx hb dX4_rename_26 rfl (lv_at hl 1 rfl) ?_
    refine lv_aload_n hx hb dX4_rename_27 rfl (lv_at hl 1 rfl) ?_
    refine lv_iload_n hx hb dX4_rename_28 rfl (lv_at hl 2 rfl) ?_
    refine k_Ri (va_runV (As := [.int a]) (rest := [.ref (ad 0)]) hF (c_X4_isCard l D cI cA ad th n y a hn) (cwV 1 hts gX4_rename_X4_isCard rfl rfl rfl (by decide +kernel) ⟨(Nat.le_of_ble_eq_true rfl), (Nat.le_of_ble_eq_true rfl)⟩) (k_pre hP hK hD hT (k := 0) (by decide) mF_0 rfl) rfl rfl hl.1 rfl (lv_room (Nat.le_of_ble_eq_true rfl)) dX4_rename_29 ⟨Nat.zero_le _, Nat.zero_le _⟩) ?_
    refine r_topi (show bI (cardB n a) = bI false from congrArg bI (hca)) ?_
    refine r_ifneB (b := false) (tgt := 39) hx hb dX4_rename_32 (by decide) (fun h => absurd h (by decide)) (fun _ => ?_)
    refine lv_iconst (v := nI 1) hx hb dX4_rename_35 (by decide) ?_
    refine lv_goto (tgt := 49) hx hb dX4_rename_36 (by decide) ?_
    refine k_Wi (va_runV (As := [.int (nI 1)]) (rest := []) hF (c_X4_isFine_1 l D cI cA ad th n y) (cwV 1 hts gX4_rename_X4_isFine rfl rfl rfl (by decide +kernel) ⟨(Nat.le_of_ble_eq_true rfl), (Nat.le_of_ble_eq_true rfl)⟩) (k_pre hP hK hD hT (k := 0) (by decide) mF_0 rfl) rfl rfl hl.1 rfl (lv_room (Nat.le_of_ble_eq_true rfl)) dX4_rename_49 ⟨Nat.zero_le _, Nat.zero_le _⟩) hD hS (fun H locs hP hS => ?_)
    refine r_ifneB (b := false) (tgt := 57) hx hb dX4_rename_52 (by decide) (fun h => absurd h (by decide)) (fun _ => ?_)
    refine lv_iconst (v := nI 0) hx hb dX4_rename_55 (by decide) ?_
    exact hret _ _ _ _ _ _ hP hS dX4_rename_56 (rfl) (rfl)
  refine r_topi (show bI (inB v (nI 0) (nI 1)) = bI (chgB v) from congrArg bI inB_chg) ?_
  refine r_ifeqB (b := chgB v) (tgt := 23) hx hb dX4_rename_6 (by decide) (fun h6_3 => ?_) (fun h6_3 => ?_)
  · refine lv_iconst (v := nI 0) hx hb dX4_rename_23 (by decide) ?_
    refine r_topi (show (nI 0 : Int32) = bI (chgB v && nameB w) from by simp [bI, h6_3]) ?_
    exact hJ24 _ _ hP hS _ (lv_sub hl [0, 1, 2, 3] rfl)
  · refine lv_iload_n hx hb dX4_rename_9 rfl (lv_at hl 3 rfl) ?_
    refine lv_iconst (v := nI 0) hx hb dX4_rename_10 (by decide) ?_
    refine lv_bipush (v := nI 31) hx hb dX4_rename_11 (by decide) ?_
    refine k_Ri (va_runS (As := [.int w, .int (nI 0), .int (nI 31)]) (rest := []) hF (c_X4_isIn l w (nI 0) (nI 31)) (va_cwS 3 hts gX4_rename_X4_isIn rfl rfl rfl (by decide +kernel) ⟨(Nat.le_of_ble_eq_true rfl), (Nat.le_of_ble_eq_true rfl)⟩) k_preS rfl rfl hl.1 rfl (lv_room (Nat.le_of_ble_eq_true rfl)) dX4_rename_13 ⟨Nat.zero_le _, Nat.zero_le _⟩) ?_
    refine r_topi (show bI (inB w (nI 0) (nI 31)) = bI (nameB w) from congrArg bI inB_name) ?_
    refine r_ifeqB (b := nameB w) (tgt := 23) hx hb dX4_rename_16 (by decide) (fun h16_4 => ?_) (fun h16_4 => ?_)
    · refine lv_iconst (v := nI 0) hx hb dX4_rename_23 (by decide) ?_
      refine r_topi (show (nI 0 : Int32) = bI (chgB v && nameB w) from by simp [bI, h6_3, h16_4]) ?_
      exact hJ24 _ _ hP hS _ (lv_sub hl [0, 1, 2, 3] rfl)
    · refine lv_iconst (v := nI 1) hx hb dX4_rename_19 (by decide) ?_
      refine lv_goto (tgt := 24) hx hb dX4_rename_20 (by decide) ?_
      refine r_topi (show (nI 1 : Int32) = bI (chgB v && nameB w) from by simp [bI, h6_3, h16_4]) ?_
      exact hJ24 _ _ hP hS _ (lv_sub hl [0, 1, 2, 3] rfl)
set_option maxHeartbeats 4000000 in
set_option maxRecDepth 100000 in
theorem m_rename_2 (l : Launch) (D : va_G) (cI : ClassId) (cA : ClassId) (ad : Nat → Nat) (th : Int32) (n : Nat) (y : Nat → Nat → Int32) (c : Nat) (v : Int32) (w : Int32) (hc : c < n) (hn : n ≤ 24) (hbad : (chgB v && nameB w) = false) : Met l yX4_rename wsX4_rename ({ frames := 2, cells := 0, slots := 0, locals := 43 }) (va_Pc [.ref (ad 0), .int (nI c), .int v, .int w] (mX D cI cA ad th n y)) (qW D ad (mF cI ad (nI 2) n y) 8 (some (.int (nI 0)))) 0 0 (wA ad 8) := by
  refine c_ofW (cc := cX4_rename) (maxL := 6) (ret := .int) (by decide) rfl rfl (Nat.le_of_ble_eq_true rfl) ?_
  intro p e s m av below meth cd Q hx hb hF hP hK hD hT hret ls hl
  have hown : s.vm.findClass RX4 = some m.cls := hF.2.2.2.1
  have hF : CallFix p m cd cX4_rename 6 s av wsX4_rename RX4 := hF
  have hts := hF.2.2.2.2
  have hl : lv_has ls 6 [(0, .ref (ad 0)), (1, .int (nI c)), (2, .int v), (3, .int w)] := hl
  obtain ⟨H, eH⟩ : ∃ H9 : Heap, H9 = s.heap := ⟨_, rfl⟩
  obtain ⟨locs, eL⟩ : ∃ L9 : List Loc, L9 = [] := ⟨_, rfl⟩
  have hS : sS (wA ad 8) s.heap H locs := by rw [eH, eL]; exact sS.rf
  rw [← eH] at hP
  suffices hgo : W p l e ({ frames := 2, cells := 0, slots := 0, locals := 43 }) s m av below meth cd H locs 0 0 Q (F0 m 0 ls []) by rw [eH, eL] at hgo; exact hgo
  clear eH eL
  refine lv_iload_n hx hb dX4_rename_0 rfl (lv_at hl 2 rfl) ?_
  refine lv_iconst (v := nI 0) hx hb dX4_rename_1 (by decide) ?_
  refine lv_iconst (v := nI 1) hx hb dX4_rename_2 (by decide) ?_
  refine k_Ri (va_runS (As := [.int v, .int (nI 0), .int (nI 1)]) (rest := []) hF (c_X4_isIn l v (nI 0) (nI 1)) (va_cwS 3 hts gX4_rename_X4_isIn rfl rfl rfl (by decide +kernel) ⟨(Nat.le_of_ble_eq_true rfl), (Nat.le_of_ble_eq_true rfl)⟩) k_preS rfl rfl hl.1 rfl (lv_room (Nat.le_of_ble_eq_true rfl)) dX4_rename_3 ⟨Nat.zero_le _, Nat.zero_le _⟩) ?_
  have hJ24 : ∀ (H : Heap) (locs : List Loc), va_P D vwCl (wl ad (mF cI ad th n y) 8) H → sS (wA ad 8) s.heap H locs → ∀ ls : Array Slot, lv_has ls 6 [(0, .ref (ad 0)), (1, .int (nI c)), (2, .int v), (3, .int w)] → W p l e ({ frames := 2, cells := 0, slots := 0, locals := 43 }) s m av below meth cd H locs 0 0 Q (F0 m 24 ls [.int (bI (chgB v && nameB w))]) := by
    intro H locs hP hS ls hl
    refine lv_istore (lv' := [(4, .int (bI (chgB v && nameB w))), (0, .ref (ad 0)), (1, .int (nI c)), (2, .int v), (3, .int w)]) hx hb dX4_rename_24 hl (by decide) rfl (fun ls hl => ?_)
    refine lv_aload_n hx hb dX4_rename_26 rfl (lv_at hl 1 rfl) ?_
    refine lv_aload_n hx hb dX4_rename_27 rfl (lv_at hl 1 rfl) ?_
    refine lv_iload_n hx hb dX4_rename_28 rfl (lv_at hl 2 rfl) ?_
    refine k_Ri (va_runV (As := [.int (nI c)]) (rest := [.ref (ad 0)]) hF (c_X4_isCard l D cI cA ad th n y (nI c) hn) (cwV 1 hts gX4_rename_X4_isCard rfl rfl rfl (by decide +kernel) ⟨(Nat.le_of_ble_eq_true rfl), (Nat.le_of_ble_eq_true rfl)⟩) (k_pre hP hK hD hT (k := 0) (by decide) mF_0 rfl) rfl rfl hl.1 rfl (lv_room (Nat.le_of_ble_eq_true rfl)) dX4_rename_29 ⟨Nat.zero_le _, Nat.zero_le _⟩) ?_
    refine r_topi (show bI (cardB n (nI c)) = bI true from congrArg bI (cardB_ok hc hn)) ?_
    refine r_ifneB (b := true) (tgt := 39) hx hb dX4_rename_32 (by decide) (fun _ => ?_) (fun h => absurd h (by decide))
    refine lv_iload hx hb dX4_rename_39 (lv_at hl 0 rfl) ?_
    refine r_ifneB (b := chgB v && nameB w) (tgt := 48) hx hb dX4_rename_41 (by decide) (fun h => absurd (h.symm.trans hbad) (by decide)) (fun _ => ?_)
    refine lv_iconst (v := nI 2) hx hb dX4_rename_44 (by decide) ?_
    refine lv_goto (tgt := 49) hx hb dX4_rename_45 (by decide) ?_
    refine k_Wi (va_runV (As := [.int (nI 2)]) (rest := []) hF (c_X4_isFine_2 l D cI cA ad th n y) (cwV 1 hts gX4_rename_X4_isFine rfl rfl rfl (by decide +kernel) ⟨(Nat.le_of_ble_eq_true rfl), (Nat.le_of_ble_eq_true rfl)⟩) (k_pre hP hK hD hT (k := 0) (by decide) mF_0 rfl) rfl rfl hl.1 rfl (lv_room (Nat.le_of_ble_eq_true rfl)) dX4_rename_49 ⟨Nat.zero_le _, Nat.zero_le _⟩) hD hS (fun H locs hP hS => ?_)
    refine r_ifneB (b := false) (tgt := 57) hx hb dX4_rename_52 (by decide) (fun h => absurd h (by decide)) (fun _ => ?_)
    refine lv_iconst (v := nI 0) hx hb dX4_rename_55 (by decide) ?_
    exact hret _ _ _ _ _ _ hP hS dX4_rename_56 (rfl) (rfl)
  refine r_topi (show bI (inB v (nI 0) (nI 1)) = bI (chgB v) from congrArg bI inB_chg) ?_
  refine r_ifeqB (b := chgB v) (tgt := 23) hx hb dX4_rename_6 (by decide) (fun h6_4 => ?_) (fun h6_4 => ?_)
  · refine lv_iconst (v := nI 0) hx hb dX4_rename_23 (by decide) ?_
    refine r_topi (show (nI 0 : Int32) = bI (chgB v && nameB w) from by simp [bI, h6_4]) ?_
    exact hJ24 _ _ hP hS _ (lv_sub hl [0, 1, 2, 3] rfl)
  · refine lv_iload_n hx hb dX4_rename_9 rfl (lv_at hl 3 rfl) ?_
    refine lv_iconst (v := nI 0) hx hb dX4_rename_10 (by decide) ?_
    refine lv_bipush (v := nI 31) hx hb dX4_rename_11 (by decide) ?_
    refine k_Ri (va_runS (As := [.int w, .int (nI 0), .int (nI 31)]) (rest := []) hF (c_X4_isIn l w (nI 0) (nI 31)) (va_cwS 3 hts gX4_rename_X4_isIn rfl rfl rfl (by decide +kernel) ⟨(Nat.le_of_ble_eq_true rfl), (Nat.le_of_ble_eq_true rfl)⟩) k_preS rfl rfl hl.1 rfl (lv_room (Nat.le_of_ble_eq_true rfl)) dX4_rename_13 ⟨Nat.zero_le _, Nat.zero_le _⟩) ?_
    refine r_topi (show bI (inB w (nI 0) (nI 31)) = bI (nameB w) from congrArg bI inB_name) ?_
    refine r_ifeqB (b := nameB w) (tgt := 23) hx hb dX4_rename_16 (by decide) (fun h16_5 => ?_) (fun h16_5 => ?_)
    · refine lv_iconst (v := nI 0) hx hb dX4_rename_23 (by decide) ?_
      refine r_topi (show (nI 0 : Int32) = bI (chgB v && nameB w) from by simp [bI, h6_4, h16_5]) ?_
      exact hJ24 _ _ hP hS _ (lv_sub hl [0, 1, 2, 3] rfl)
    · refine lv_iconst (v := nI 1) hx hb dX4_rename_19 (by decide) ?_
      refine lv_goto (tgt := 24) hx hb dX4_rename_20 (by decide) ?_
      refine r_topi (show (nI 1 : Int32) = bI (chgB v && nameB w) from by simp [bI, h6_4, h16_5]) ?_
      exact hJ24 _ _ hP hS _ (lv_sub hl [0, 1, 2, 3] rfl)
set_option maxHeartbeats 4000000 in
set_option maxRecDepth 100000 in
theorem m_values_0 (l : Launch) (D : va_G) (cI : ClassId) (cA : ClassId) (ad : Nat → Nat) (th : Int32) (n : Nat) (y : Nat → Nat → Int32) (c : Nat) (v : Nat) (k : Nat) (hc : c < n) (hn : n ≤ 24) (hv : v < 3) (hk : k < 2) : Met l yX4_values wsX4_values ({ frames := 2, cells := 0, slots := 0, locals := 43 }) (va_Pc [.ref (ad 0), .int (nI c), .int (nI v), .int (nI k)] (mX D cI cA ad th n y)) (qW D ad (mF cI ad (nI 0) n y) 8 (some (.int (y 3 (6 * c + 2 * v + k))))) 0 0 (wA ad 8) := by
  refine c_ofW (cc := cX4_values) (maxL := 5) (ret := .int) (by decide) rfl rfl (Nat.le_of_ble_eq_true rfl) ?_
  intro p e s m av below meth cd Q hx hb hF hP hK hD hT hret ls hl
  have hown : s.vm.findClass RX4 = some m.cls := hF.2.2.2.1
  have hF : CallFix p m cd cX4_values 5 s av wsX4_values RX4 := hF
  have hts := hF.2.2.2.2
  have hl : lv_has ls 5 [(0, .ref (ad 0)), (1, .int (nI c)), (2, .int (nI v)), (3, .int (nI k))] := hl
  obtain ⟨H, eH⟩ : ∃ H9 : Heap, H9 = s.heap := ⟨_, rfl⟩
  obtain ⟨locs, eL⟩ : ∃ L9 : List Loc, L9 = [] := ⟨_, rfl⟩
  have hS : sS (wA ad 8) s.heap H locs := by rw [eH, eL]; exact sS.rf
  rw [← eH] at hP
  suffices hgo : W p l e ({ frames := 2, cells := 0, slots := 0, locals := 43 }) s m av below meth cd H locs 0 0 Q (F0 m 0 ls []) by rw [eH, eL] at hgo; exact hgo
  clear eH eL
  refine lv_iload_n hx hb dX4_values_0 rfl (lv_at hl 2 rfl) ?_
  refine lv_iconst (v := nI 0) hx hb dX4_values_1 (by decide) ?_
  refine lv_iconst (v := nI 2) hx hb dX4_values_2 (by decide) ?_
  refine k_Ri (va_runS (As := [.int (nI v), .int (nI 0), .int (nI 2)]) (rest := []) hF (c_X4_isIn l (nI v) (nI 0) (nI 2)) (va_cwS 3 hts gX4_values_X4_isIn rfl rfl rfl (by decide +kernel) ⟨(Nat.le_of_ble_eq_true rfl), (Nat.le_of_ble_eq_true rfl)⟩) k_preS rfl rfl hl.1 rfl (lv_room (Nat.le_of_ble_eq_true rfl)) dX4_values_3 ⟨Nat.zero_le _, Nat.zero_le _⟩) ?_
  refine r_topi (show bI (inB (nI v) (nI 0) (nI 2)) = bI true from congrArg bI (inB_ver.trans (verB_ok hv))) ?_
  refine r_ifeqB (b := true) (tgt := 20) hx hb dX4_values_6 (by decide) (fun h => absurd h (by decide)) (fun _ => ?_)
  refine lv_iload_n hx hb dX4_values_9 rfl (lv_at hl 3 rfl) ?_
  refine k_Ri (va_runS (As := [.int (nI k)]) (rest := []) hF (c_X4_isKind l (nI k)) (va_cwS 1 hts gX4_values_X4_isKind rfl rfl rfl (by decide +kernel) ⟨(Nat.le_of_ble_eq_true rfl), (Nat.le_of_ble_eq_true rfl)⟩) k_preS rfl rfl hl.1 rfl (lv_room (Nat.le_of_ble_eq_true rfl)) dX4_values_10 ⟨Nat.zero_le _, Nat.zero_le _⟩) ?_
  refine r_topi (show bI (kindB (nI k)) = bI true from congrArg bI (kindB_ok hk)) ?_
  refine r_ifeqB (b := true) (tgt := 20) hx hb dX4_values_13 (by decide) (fun h => absurd h (by decide)) (fun _ => ?_)
  refine lv_iconst (v := nI 1) hx hb dX4_values_16 (by decide) ?_
  refine lv_goto (tgt := 21) hx hb dX4_values_17 (by decide) ?_
  refine lv_istore (lv' := [(4, .int (nI 1)), (0, .ref (ad 0)), (1, .int (nI c)), (2, .int (nI v)), (3, .int (nI k))]) hx hb dX4_values_21 hl (by decide) rfl (fun ls hl => ?_)
  refine lv_aload_n hx hb dX4_values_23 rfl (lv_at hl 1 rfl) ?_
  refine lv_aload_n hx hb dX4_values_24 rfl (lv_at hl 1 rfl) ?_
  refine lv_iload_n hx hb dX4_values_25 rfl (lv_at hl 2 rfl) ?_
  refine k_Ri (va_runV (As := [.int (nI c)]) (rest := [.ref (ad 0)]) hF (c_X4_isCard l D cI cA ad th n y (nI c) hn) (cwV 1 hts gX4_values_X4_isCard rfl rfl rfl (by decide +kernel) ⟨(Nat.le_of_ble_eq_true rfl), (Nat.le_of_ble_eq_true rfl)⟩) (k_pre hP hK hD hT (k := 0) (by decide) mF_0 rfl) rfl rfl hl.1 rfl (lv_room (Nat.le_of_ble_eq_true rfl)) dX4_values_26 ⟨Nat.zero_le _, Nat.zero_le _⟩) ?_
  refine r_topi (show bI (cardB n (nI c)) = bI true from congrArg bI (cardB_ok hc hn)) ?_
  refine r_ifneB (b := true) (tgt := 36) hx hb dX4_values_29 (by decide) (fun _ => ?_) (fun h => absurd h (by decide))
  refine lv_iload hx hb dX4_values_36 (lv_at hl 0 rfl) ?_
  refine r_ifneN (a := 1) (tgt := 45) hx hb (by omega) dX4_values_38 (by decide) (fun _ => ?_) (fun h => absurd h (by omega))
  refine lv_iconst (v := nI 0) hx hb dX4_values_45 (by decide) ?_
  refine k_Wi (va_runV (As := [.int (nI 0)]) (rest := []) hF (c_X4_isFine_0 l D cI cA ad th n y) (cwV 1 hts gX4_values_X4_isFine rfl rfl rfl (by decide +kernel) ⟨(Nat.le_of_ble_eq_true rfl), (Nat.le_of_ble_eq_true rfl)⟩) (k_pre hP hK hD hT (k := 0) (by decide) mF_0 rfl) rfl rfl hl.1 rfl (lv_room (Nat.le_of_ble_eq_true rfl)) dX4_values_46 ⟨Nat.zero_le _, Nat.zero_le _⟩) hD hS (fun H locs hP hS => ?_)
  refine r_ifeqB (b := true) (tgt := 66) hx hb dX4_values_49 (by decide) (fun h => absurd h (by decide)) (fun _ => ?_)
  refine lv_aload_n hx hb dX4_values_52 rfl (lv_at hl 1 rfl) ?_
  refine r_get (C := RX4) (T := TX4) (M := 9) (index := 16) (fd := "set") (fo := "[I") hx hb hts (by decide +kernel) hown hK hP 0 (by decide) mF_0 rfl 3 (by decide) rfl (by decide +kernel) rfl dX4_values_53 ?_
  refine lv_iload_n hx hb dX4_values_56 rfl (lv_at hl 2 rfl) ?_
  refine lv_iload_n hx hb dX4_values_57 rfl (lv_at hl 3 rfl) ?_
  refine lv_iload_n hx hb dX4_values_58 rfl (lv_at hl 4 rfl) ?_
  refine k_Ri (va_runS (As := [.int (nI c), .int (nI v), .int (nI k)]) (rest := [.ref (ad 3)]) hF (c_X4_at l c v k (by omega) hv hk) (va_cwS 3 hts gX4_values_X4_at rfl rfl rfl (by decide +kernel) ⟨(Nat.le_of_ble_eq_true rfl), (Nat.le_of_ble_eq_true rfl)⟩) k_preS rfl rfl hl.1 rfl (lv_room (Nat.le_of_ble_eq_true rfl)) dX4_values_59 ⟨Nat.zero_le _, Nat.zero_le _⟩) ?_
  refine r_iald hx hb hK hP 3 0 (by omega) mF_3 rfl (i := 6 * c + 2 * v + k) (by omega) (by decide) dX4_values_62 ?_
  refine lv_goto (tgt := 67) hx hb dX4_values_63 (by decide) ?_
  exact hret _ _ _ _ _ _ hP hS dX4_values_67 (rfl) (rfl)
set_option maxHeartbeats 4000000 in
set_option maxRecDepth 100000 in
theorem m_values_1 (l : Launch) (D : va_G) (cI : ClassId) (cA : ClassId) (ad : Nat → Nat) (th : Int32) (n : Nat) (y : Nat → Nat → Int32) (a : Int32) (v : Int32) (k : Int32) (hca : cardB n a = false) (hn : n ≤ 24) : Met l yX4_values wsX4_values ({ frames := 2, cells := 0, slots := 0, locals := 43 }) (va_Pc [.ref (ad 0), .int a, .int v, .int k] (mX D cI cA ad th n y)) (qW D ad (mF cI ad (nI 1) n y) 8 (some (.int (nI 0)))) 0 0 (wA ad 8) := by
  refine c_ofW (cc := cX4_values) (maxL := 5) (ret := .int) (by decide) rfl rfl (Nat.le_of_ble_eq_true rfl) ?_
  intro p e s m av below meth cd Q hx hb hF hP hK hD hT hret ls hl
  have hown : s.vm.findClass RX4 = some m.cls := hF.2.2.2.1
  have hF : CallFix p m cd cX4_values 5 s av wsX4_values RX4 := hF
  have hts := hF.2.2.2.2
  have hl : lv_has ls 5 [(0, .ref (ad 0)), (1, .int a), (2, .int v), (3, .int k)] := hl
  obtain ⟨H, eH⟩ : ∃ H9 : Heap, H9 = s.heap := ⟨_, rfl⟩
  obtain ⟨locs, eL⟩ : ∃ L9 : List Loc, L9 = [] := ⟨_, rfl⟩
  have hS : sS (wA ad 8) s.heap H locs := by rw [eH, eL]; exact sS.rf
  rw [← eH] at hP
  suffices hgo : W p l e ({ frames := 2, cells := 0, slots := 0, locals := 43 }) s m av below meth cd H locs 0 0 Q (F0 m 0 ls []) by rw [eH, eL] at hgo; exact hgo
  clear eH eL
  refine lv_iload_n hx hb dX4_values_0 rfl (lv_at hl 2 rfl) ?_
  refine lv_iconst (v := nI 0) hx hb dX4_values_1 (by decide) ?_
  refine lv_iconst (v := nI 2) hx hb dX4_values_2 (by decide) ?_
  refine k_Ri (va_runS (As := [.int v, .int (nI 0), .int (nI 2)]) (rest := []) hF (c_X4_isIn l v (nI 0) (nI 2)) (va_cwS 3 hts gX4_values_X4_isIn rfl rfl rfl (by decide +kernel) ⟨(Nat.le_of_ble_eq_true rfl), (Nat.le_of_ble_eq_true rfl)⟩) k_preS rfl rfl hl.1 rfl (lv_room (Nat.le_of_ble_eq_true rfl)) dX4_values_3 ⟨Nat.zero_le _, Nat.zero_le _⟩) ?_
  have hJ21 : ∀ (H : Heap) (locs : List Loc), va_P D vwCl (wl ad (mF cI ad th n y) 8) H → sS (wA ad 8) s.heap H locs → ∀ ls : Array Slot, lv_has ls 5 [(0, .ref (ad 0)), (1, .int a), (2, .int v), (3, .int k)] → W p l e ({ frames := 2, cells := 0, slots := 0, locals := 43 }) s m av below meth cd H locs 0 0 Q (F0 m 21 ls [.int (bI (verB v && kindB k))]) := by
    intro H locs hP hS ls hl
    refine lv_istore (lv' := [(4, .int (bI (verB v && kindB k))), (0, .ref (ad 0)), (1, .int a), (2, .int v), (3, .int k)]) hx hb dX4_values_21 hl (by decide) rfl (fun ls hl => ?_)
    refine lv_aload_n hx hb dX4_values_23 rfl (lv_at hl 1 rfl) ?_
    refine lv_aload_n hx hb dX4_values_24 rfl (lv_at hl 1 rfl) ?_
    refine lv_iload_n hx hb dX4_values_25 rfl (lv_at hl 2 rfl) ?_
    refine k_Ri (va_runV (As := [.int a]) (rest := [.ref (ad 0)]) hF (c_X4_isCard l D cI cA ad th n y a hn) (cwV 1 hts gX4_values_X4_isCard rfl rfl rfl (by decide +kernel) ⟨(Nat.le_of_ble_eq_true rfl), (Nat.le_of_ble_eq_true rfl)⟩) (k_pre hP hK hD hT (k := 0) (by decide) mF_0 rfl) rfl rfl hl.1 rfl (lv_room (Nat.le_of_ble_eq_true rfl)) dX4_values_26 ⟨Nat.zero_le _, Nat.zero_le _⟩) ?_
    refine r_topi (show bI (cardB n a) = bI false from congrArg bI (hca)) ?_
    refine r_ifneB (b := false) (tgt := 36) hx hb dX4_values_29 (by decide) (fun h => absurd h (by decide)) (fun _ => ?_)
    refine lv_iconst (v := nI 1) hx hb dX4_values_32 (by decide) ?_
    refine lv_goto (tgt := 46) hx hb dX4_values_33 (by decide) ?_
    refine k_Wi (va_runV (As := [.int (nI 1)]) (rest := []) hF (c_X4_isFine_1 l D cI cA ad th n y) (cwV 1 hts gX4_values_X4_isFine rfl rfl rfl (by decide +kernel) ⟨(Nat.le_of_ble_eq_true rfl), (Nat.le_of_ble_eq_true rfl)⟩) (k_pre hP hK hD hT (k := 0) (by decide) mF_0 rfl) rfl rfl hl.1 rfl (lv_room (Nat.le_of_ble_eq_true rfl)) dX4_values_46 ⟨Nat.zero_le _, Nat.zero_le _⟩) hD hS (fun H locs hP hS => ?_)
    refine r_ifeqB (b := false) (tgt := 66) hx hb dX4_values_49 (by decide) (fun _ => ?_) (fun h => absurd h (by decide))
    refine lv_iconst (v := nI 0) hx hb dX4_values_66 (by decide) ?_
    exact hret _ _ _ _ _ _ hP hS dX4_values_67 (rfl) (rfl)
  refine r_topi (show bI (inB v (nI 0) (nI 2)) = bI (verB v) from congrArg bI inB_ver) ?_
  refine r_ifeqB (b := verB v) (tgt := 20) hx hb dX4_values_6 (by decide) (fun h6_3 => ?_) (fun h6_3 => ?_)
  · refine lv_iconst (v := nI 0) hx hb dX4_values_20 (by decide) ?_
    refine r_topi (show (nI 0 : Int32) = bI (verB v && kindB k) from by simp [bI, h6_3]) ?_
    exact hJ21 _ _ hP hS _ (lv_sub hl [0, 1, 2, 3] rfl)
  · refine lv_iload_n hx hb dX4_values_9 rfl (lv_at hl 3 rfl) ?_
    refine k_Ri (va_runS (As := [.int k]) (rest := []) hF (c_X4_isKind l k) (va_cwS 1 hts gX4_values_X4_isKind rfl rfl rfl (by decide +kernel) ⟨(Nat.le_of_ble_eq_true rfl), (Nat.le_of_ble_eq_true rfl)⟩) k_preS rfl rfl hl.1 rfl (lv_room (Nat.le_of_ble_eq_true rfl)) dX4_values_10 ⟨Nat.zero_le _, Nat.zero_le _⟩) ?_
    refine r_ifeqB (b := kindB k) (tgt := 20) hx hb dX4_values_13 (by decide) (fun h13_4 => ?_) (fun h13_4 => ?_)
    · refine lv_iconst (v := nI 0) hx hb dX4_values_20 (by decide) ?_
      refine r_topi (show (nI 0 : Int32) = bI (verB v && kindB k) from by simp [bI, h6_3, h13_4]) ?_
      exact hJ21 _ _ hP hS _ (lv_sub hl [0, 1, 2, 3] rfl)
    · refine lv_iconst (v := nI 1) hx hb dX4_values_16 (by decide) ?_
      refine lv_goto (tgt := 21) hx hb dX4_values_17 (by decide) ?_
      refine r_topi (show (nI 1 : Int32) = bI (verB v && kindB k) from by simp [bI, h6_3, h13_4]) ?_
      exact hJ21 _ _ hP hS _ (lv_sub hl [0, 1, 2, 3] rfl)
set_option maxHeartbeats 4000000 in
set_option maxRecDepth 100000 in
theorem m_values_2 (l : Launch) (D : va_G) (cI : ClassId) (cA : ClassId) (ad : Nat → Nat) (th : Int32) (n : Nat) (y : Nat → Nat → Int32) (c : Nat) (v : Int32) (k : Int32) (hc : c < n) (hn : n ≤ 24) (hbad : (verB v && kindB k) = false) : Met l yX4_values wsX4_values ({ frames := 2, cells := 0, slots := 0, locals := 43 }) (va_Pc [.ref (ad 0), .int (nI c), .int v, .int k] (mX D cI cA ad th n y)) (qW D ad (mF cI ad (nI 2) n y) 8 (some (.int (nI 0)))) 0 0 (wA ad 8) := by
  refine c_ofW (cc := cX4_values) (maxL := 5) (ret := .int) (by decide) rfl rfl (Nat.le_of_ble_eq_true rfl) ?_
  intro p e s m av below meth cd Q hx hb hF hP hK hD hT hret ls hl
  have hown : s.vm.findClass RX4 = some m.cls := hF.2.2.2.1
  have hF : CallFix p m cd cX4_values 5 s av wsX4_values RX4 := hF
  have hts := hF.2.2.2.2
  have hl : lv_has ls 5 [(0, .ref (ad 0)), (1, .int (nI c)), (2, .int v), (3, .int k)] := hl
  obtain ⟨H, eH⟩ : ∃ H9 : Heap, H9 = s.heap := ⟨_, rfl⟩
  obtain ⟨locs, eL⟩ : ∃ L9 : List Loc, L9 = [] := ⟨_, rfl⟩
  have hS : sS (wA ad 8) s.heap H locs := by rw [eH, eL]; exact sS.rf
  rw [← eH] at hP
  suffices hgo : W p l e ({ frames := 2, cells := 0, slots := 0, locals := 43 }) s m av below meth cd H locs 0 0 Q (F0 m 0 ls []) by rw [eH, eL] at hgo; exact hgo
  clear eH eL
  refine lv_iload_n hx hb dX4_values_0 rfl (lv_at hl 2 rfl) ?_
  refine lv_iconst (v := nI 0) hx hb dX4_values_1 (by decide) ?_
  refine lv_iconst (v := nI 2) hx hb dX4_values_2 (by decide) ?_
  refine k_Ri (va_runS (As := [.int v, .int (nI 0), .int (nI 2)]) (rest := []) hF (c_X4_isIn l v (nI 0) (nI 2)) (va_cwS 3 hts gX4_values_X4_isIn rfl rfl rfl (by decide +kernel) ⟨(Nat.le_of_ble_eq_true rfl), (Nat.le_of_ble_eq_true rfl)⟩) k_preS rfl rfl hl.1 rfl (lv_room (Nat.le_of_ble_eq_true rfl)) dX4_values_3 ⟨Nat.zero_le _, Nat.zero_le _⟩) ?_
  have hJ21 : ∀ (H : Heap) (locs : List Loc), va_P D vwCl (wl ad (mF cI ad th n y) 8) H → sS (wA ad 8) s.heap H locs → ∀ ls : Array Slot, lv_has ls 5 [(0, .ref (ad 0)), (1, .int (nI c)), (2, .int v), (3, .int k)] → W p l e ({ frames := 2, cells := 0, slots := 0, locals := 43 }) s m av below meth cd H locs 0 0 Q (F0 m 21 ls [.int (bI (verB v && kindB k))]) := by
    intro H locs hP hS ls hl
    refine lv_istore (lv' := [(4, .int (bI (verB v && kindB k))), (0, .ref (ad 0)), (1, .int (nI c)), (2, .int v), (3, .int k)]) hx hb dX4_values_21 hl (by decide) rfl (fun ls hl => ?_)
    refine lv_aload_n hx hb dX4_values_23 rfl (lv_at hl 1 rfl) ?_
    refine lv_aload_n hx hb dX4_values_24 rfl (lv_at hl 1 rfl) ?_
    refine lv_iload_n hx hb dX4_values_25 rfl (lv_at hl 2 rfl) ?_
    refine k_Ri (va_runV (As := [.int (nI c)]) (rest := [.ref (ad 0)]) hF (c_X4_isCard l D cI cA ad th n y (nI c) hn) (cwV 1 hts gX4_values_X4_isCard rfl rfl rfl (by decide +kernel) ⟨(Nat.le_of_ble_eq_true rfl), (Nat.le_of_ble_eq_true rfl)⟩) (k_pre hP hK hD hT (k := 0) (by decide) mF_0 rfl) rfl rfl hl.1 rfl (lv_room (Nat.le_of_ble_eq_true rfl)) dX4_values_26 ⟨Nat.zero_le _, Nat.zero_le _⟩) ?_
    refine r_topi (show bI (cardB n (nI c)) = bI true from congrArg bI (cardB_ok hc hn)) ?_
    refine r_ifneB (b := true) (tgt := 36) hx hb dX4_values_29 (by decide) (fun _ => ?_) (fun h => absurd h (by decide))
    refine lv_iload hx hb dX4_values_36 (lv_at hl 0 rfl) ?_
    refine r_ifneB (b := verB v && kindB k) (tgt := 45) hx hb dX4_values_38 (by decide) (fun h => absurd (h.symm.trans hbad) (by decide)) (fun _ => ?_)
    refine lv_iconst (v := nI 2) hx hb dX4_values_41 (by decide) ?_
    refine lv_goto (tgt := 46) hx hb dX4_values_42 (by decide) ?_
    refine k_Wi (va_runV (As := [.int (nI 2)]) (rest := []) hF (c_X4_isFine_2 l D cI cA ad th n y) (cwV 1 hts gX4_values_X4_isFine rfl rfl rfl (by decide +kernel) ⟨(Nat.le_of_ble_eq_true rfl), (Nat.le_of_ble_eq_true rfl)⟩) (k_pre hP hK hD hT (k := 0) (by decide) mF_0 rfl) rfl rfl hl.1 rfl (lv_room (Nat.le_of_ble_eq_true rfl)) dX4_values_46 ⟨Nat.zero_le _, Nat.zero_le _⟩) hD hS (fun H locs hP hS => ?_)
    refine r_ifeqB (b := false) (tgt := 66) hx hb dX4_values_49 (by decide) (fun _ => ?_) (fun h => absurd h (by decide))
    refine lv_iconst (v := nI 0) hx hb dX4_values_66 (by decide) ?_
    exact hret _ _ _ _ _ _ hP hS dX4_values_67 (rfl) (rfl)
  refine r_topi (show bI (inB v (nI 0) (nI 2)) = bI (verB v) from congrArg bI inB_ver) ?_
  refine r_ifeqB (b := verB v) (tgt := 20) hx hb dX4_values_6 (by decide) (fun h6_4 => ?_) (fun h6_4 => ?_)
  · refine lv_iconst (v := nI 0) hx hb dX4_values_20 (by decide) ?_
    refine r_topi (show (nI 0 : Int32) = bI (verB v && kindB k) from by simp [bI, h6_4]) ?_
    exact hJ21 _ _ hP hS _ (lv_sub hl [0, 1, 2, 3] rfl)
  · refine lv_iload_n hx hb dX4_values_9 rfl (lv_at hl 3 rfl) ?_
    refine k_Ri (va_runS (As := [.int k]) (rest := []) hF (c_X4_isKind l k) (va_cwS 1 hts gX4_values_X4_isKind rfl rfl rfl (by decide +kernel) ⟨(Nat.le_of_ble_eq_true rfl), (Nat.le_of_ble_eq_true rfl)⟩) k_preS rfl rfl hl.1 rfl (lv_room (Nat.le_of_ble_eq_true rfl)) dX4_values_10 ⟨Nat.zero_le _, Nat.zero_le _⟩) ?_
    refine r_ifeqB (b := kindB k) (tgt := 20) hx hb dX4_values_13 (by decide) (fun h13_5 => ?_) (fun h13_5 => ?_)
    · refine lv_iconst (v := nI 0) hx hb dX4_values_20 (by decide) ?_
      refine r_topi (show (nI 0 : Int32) = bI (verB v && kindB k) from by simp [bI, h6_4, h13_5]) ?_
      exact hJ21 _ _ hP hS _ (lv_sub hl [0, 1, 2, 3] rfl)
    · refine lv_iconst (v := nI 1) hx hb dX4_values_16 (by decide) ?_
      refine lv_goto (tgt := 21) hx hb dX4_values_17 (by decide) ?_
      refine r_topi (show (nI 1 : Int32) = bI (verB v && kindB k) from by simp [bI, h6_4, h13_5]) ?_
      exact hJ21 _ _ hP hS _ (lv_sub hl [0, 1, 2, 3] rfl)
set_option maxHeartbeats 4000000 in
set_option maxRecDepth 100000 in
theorem m_nameOf_0 (l : Launch) (D : va_G) (cI : ClassId) (cA : ClassId) (ad : Nat → Nat) (th : Int32) (n : Nat) (y : Nat → Nat → Int32) (c : Nat) (v : Nat) (hc : c < n) (hn : n ≤ 24) (hv : v < 3) : Met l yX4_nameOf wsX4_nameOf ({ frames := 2, cells := 0, slots := 0, locals := 43 }) (va_Pc [.ref (ad 0), .int (nI c), .int (nI v)] (mX D cI cA ad th n y)) (qW D ad (mF cI ad (nI 0) n y) 8 (some (.int (y 2 (3 * c + v))))) 0 0 (wA ad 8) := by
  refine c_ofW (cc := cX4_nameOf) (maxL := 3) (ret := .int) (by decide) rfl rfl (Nat.le_of_ble_eq_true rfl) ?_
  intro p e s m av below meth cd Q hx hb hF hP hK hD hT hret ls hl
  have hown : s.vm.findClass RX4 = some m.cls := hF.2.2.2.1
  have hF : CallFix p m cd cX4_nameOf 3 s av wsX4_nameOf RX4 := hF
  have hts := hF.2.2.2.2
  have hl : lv_has ls 3 [(0, .ref (ad 0)), (1, .int (nI c)), (2, .int (nI v))] := hl
  obtain ⟨H, eH⟩ : ∃ H9 : Heap, H9 = s.heap := ⟨_, rfl⟩
  obtain ⟨locs, eL⟩ : ∃ L9 : List Loc, L9 = [] := ⟨_, rfl⟩
  have hS : sS (wA ad 8) s.heap H locs := by rw [eH, eL]; exact sS.rf
  rw [← eH] at hP
  suffices hgo : W p l e ({ frames := 2, cells := 0, slots := 0, locals := 43 }) s m av below meth cd H locs 0 0 Q (F0 m 0 ls []) by rw [eH, eL] at hgo; exact hgo
  clear eH eL
  refine lv_aload_n hx hb dX4_nameOf_0 rfl (lv_at hl 0 rfl) ?_
  refine lv_aload_n hx hb dX4_nameOf_1 rfl (lv_at hl 0 rfl) ?_
  refine lv_iload_n hx hb dX4_nameOf_2 rfl (lv_at hl 1 rfl) ?_
  refine k_Ri (va_runV (As := [.int (nI c)]) (rest := [.ref (ad 0)]) hF (c_X4_isCard l D cI cA ad th n y (nI c) hn) (cwV 1 hts gX4_nameOf_X4_isCard rfl rfl rfl (by decide +kernel) ⟨(Nat.le_of_ble_eq_true rfl), (Nat.le_of_ble_eq_true rfl)⟩) (k_pre hP hK hD hT (k := 0) (by decide) mF_0 rfl) rfl rfl hl.1 rfl (lv_room (Nat.le_of_ble_eq_true rfl)) dX4_nameOf_3 ⟨Nat.zero_le _, Nat.zero_le _⟩) ?_
  refine r_topi (show bI (cardB n (nI c)) = bI true from congrArg bI (cardB_ok hc hn)) ?_
  refine r_ifneB (b := true) (tgt := 13) hx hb dX4_nameOf_6 (by decide) (fun _ => ?_) (fun h => absurd h (by decide))
  refine lv_iload_n hx hb dX4_nameOf_13 rfl (lv_at hl 2 rfl) ?_
  refine lv_iconst (v := nI 0) hx hb dX4_nameOf_14 (by decide) ?_
  refine lv_iconst (v := nI 2) hx hb dX4_nameOf_15 (by decide) ?_
  refine k_Ri (va_runS (As := [.int (nI v), .int (nI 0), .int (nI 2)]) (rest := [.ref (ad 0)]) hF (c_X4_isIn l (nI v) (nI 0) (nI 2)) (va_cwS 3 hts gX4_nameOf_X4_isIn rfl rfl rfl (by decide +kernel) ⟨(Nat.le_of_ble_eq_true rfl), (Nat.le_of_ble_eq_true rfl)⟩) k_preS rfl rfl hl.1 rfl (lv_room (Nat.le_of_ble_eq_true rfl)) dX4_nameOf_16 ⟨Nat.zero_le _, Nat.zero_le _⟩) ?_
  refine r_topi (show bI (inB (nI v) (nI 0) (nI 2)) = bI true from congrArg bI (inB_ver.trans (verB_ok hv))) ?_
  refine r_ifneB (b := true) (tgt := 26) hx hb dX4_nameOf_19 (by decide) (fun _ => ?_) (fun h => absurd h (by decide))
  refine lv_iconst (v := nI 0) hx hb dX4_nameOf_26 (by decide) ?_
  refine k_Wi (va_runV (As := [.int (nI 0)]) (rest := []) hF (c_X4_isFine_0 l D cI cA ad th n y) (cwV 1 hts gX4_nameOf_X4_isFine rfl rfl rfl (by decide +kernel) ⟨(Nat.le_of_ble_eq_true rfl), (Nat.le_of_ble_eq_true rfl)⟩) (k_pre hP hK hD hT (k := 0) (by decide) mF_0 rfl) rfl rfl hl.1 rfl (lv_room (Nat.le_of_ble_eq_true rfl)) dX4_nameOf_27 ⟨Nat.zero_le _, Nat.zero_le _⟩) hD hS (fun H locs hP hS => ?_)
  refine r_ifeqB (b := true) (tgt := 46) hx hb dX4_nameOf_30 (by decide) (fun h => absurd h (by decide)) (fun _ => ?_)
  refine lv_aload_n hx hb dX4_nameOf_33 rfl (lv_at hl 0 rfl) ?_
  refine r_get (C := RX4) (T := TX4) (M := 9) (index := 13) (fd := "name") (fo := "[I") hx hb hts (by decide +kernel) hown hK hP 0 (by decide) mF_0 rfl 2 (by decide) rfl (by decide +kernel) rfl dX4_nameOf_34 ?_
  refine lv_iconst (v := nI 3) hx hb dX4_nameOf_37 (by decide) ?_
  refine lv_iload_n hx hb dX4_nameOf_38 rfl (lv_at hl 1 rfl) ?_
  refine r_mulN (a := 3) (b := c) (r := 3 * c) hx hb dX4_nameOf_39 (by omega) ?_
  refine lv_iload_n hx hb dX4_nameOf_40 rfl (lv_at hl 2 rfl) ?_
  refine r_addN (a := 3 * c) (b := v) (r := 3 * c + v) hx hb dX4_nameOf_41 (by omega) ?_
  refine r_iald hx hb hK hP 2 0 (by omega) mF_2 rfl (i := 3 * c + v) (by omega) (by decide) dX4_nameOf_42 ?_
  refine lv_goto (tgt := 47) hx hb dX4_nameOf_43 (by decide) ?_
  exact hret _ _ _ _ _ _ hP hS dX4_nameOf_47 (rfl) (rfl)
set_option maxHeartbeats 4000000 in
set_option maxRecDepth 100000 in
theorem m_nameOf_1 (l : Launch) (D : va_G) (cI : ClassId) (cA : ClassId) (ad : Nat → Nat) (th : Int32) (n : Nat) (y : Nat → Nat → Int32) (a : Int32) (v : Int32) (hca : cardB n a = false) (hn : n ≤ 24) : Met l yX4_nameOf wsX4_nameOf ({ frames := 2, cells := 0, slots := 0, locals := 43 }) (va_Pc [.ref (ad 0), .int a, .int v] (mX D cI cA ad th n y)) (qW D ad (mF cI ad (nI 1) n y) 8 (some (.int (nI 0)))) 0 0 (wA ad 8) := by
  refine c_ofW (cc := cX4_nameOf) (maxL := 3) (ret := .int) (by decide) rfl rfl (Nat.le_of_ble_eq_true rfl) ?_
  intro p e s m av below meth cd Q hx hb hF hP hK hD hT hret ls hl
  have hown : s.vm.findClass RX4 = some m.cls := hF.2.2.2.1
  have hF : CallFix p m cd cX4_nameOf 3 s av wsX4_nameOf RX4 := hF
  have hts := hF.2.2.2.2
  have hl : lv_has ls 3 [(0, .ref (ad 0)), (1, .int a), (2, .int v)] := hl
  obtain ⟨H, eH⟩ : ∃ H9 : Heap, H9 = s.heap := ⟨_, rfl⟩
  obtain ⟨locs, eL⟩ : ∃ L9 : List Loc, L9 = [] := ⟨_, rfl⟩
  have hS : sS (wA ad 8) s.heap H locs := by rw [eH, eL]; exact sS.rf
  rw [← eH] at hP
  suffices hgo : W p l e ({ frames := 2, cells := 0, slots := 0, locals := 43 }) s m av below meth cd H locs 0 0 Q (F0 m 0 ls []) by rw [eH, eL] at hgo; exact hgo
  clear eH eL
  refine lv_aload_n hx hb dX4_nameOf_0 rfl (lv_at hl 0 rfl) ?_
  refine lv_aload_n hx hb dX4_nameOf_1 rfl (lv_at hl 0 rfl) ?_
  refine lv_iload_n hx hb dX4_nameOf_2 rfl (lv_at hl 1 rfl) ?_
  refine k_Ri (va_runV (As := [.int a]) (rest := [.ref (ad 0)]) hF (c_X4_isCard l D cI cA ad th n y a hn) (cwV 1 hts gX4_nameOf_X4_isCard rfl rfl rfl (by decide +kernel) ⟨(Nat.le_of_ble_eq_true rfl), (Nat.le_of_ble_eq_true rfl)⟩) (k_pre hP hK hD hT (k := 0) (by decide) mF_0 rfl) rfl rfl hl.1 rfl (lv_room (Nat.le_of_ble_eq_true rfl)) dX4_nameOf_3 ⟨Nat.zero_le _, Nat.zero_le _⟩) ?_
  refine r_topi (show bI (cardB n a) = bI false from congrArg bI (hca)) ?_
  refine r_ifneB (b := false) (tgt := 13) hx hb dX4_nameOf_6 (by decide) (fun h => absurd h (by decide)) (fun _ => ?_)
  refine lv_iconst (v := nI 1) hx hb dX4_nameOf_9 (by decide) ?_
  refine lv_goto (tgt := 27) hx hb dX4_nameOf_10 (by decide) ?_
  refine k_Wi (va_runV (As := [.int (nI 1)]) (rest := []) hF (c_X4_isFine_1 l D cI cA ad th n y) (cwV 1 hts gX4_nameOf_X4_isFine rfl rfl rfl (by decide +kernel) ⟨(Nat.le_of_ble_eq_true rfl), (Nat.le_of_ble_eq_true rfl)⟩) (k_pre hP hK hD hT (k := 0) (by decide) mF_0 rfl) rfl rfl hl.1 rfl (lv_room (Nat.le_of_ble_eq_true rfl)) dX4_nameOf_27 ⟨Nat.zero_le _, Nat.zero_le _⟩) hD hS (fun H locs hP hS => ?_)
  refine r_ifeqB (b := false) (tgt := 46) hx hb dX4_nameOf_30 (by decide) (fun _ => ?_) (fun h => absurd h (by decide))
  refine lv_iconst (v := nI 0) hx hb dX4_nameOf_46 (by decide) ?_
  exact hret _ _ _ _ _ _ hP hS dX4_nameOf_47 (rfl) (rfl)
set_option maxHeartbeats 4000000 in
set_option maxRecDepth 100000 in
theorem m_nameOf_2 (l : Launch) (D : va_G) (cI : ClassId) (cA : ClassId) (ad : Nat → Nat) (th : Int32) (n : Nat) (y : Nat → Nat → Int32) (c : Nat) (v : Int32) (hc : c < n) (hn : n ≤ 24) (hbad : (verB v) = false) : Met l yX4_nameOf wsX4_nameOf ({ frames := 2, cells := 0, slots := 0, locals := 43 }) (va_Pc [.ref (ad 0), .int (nI c), .int v] (mX D cI cA ad th n y)) (qW D ad (mF cI ad (nI 2) n y) 8 (some (.int (nI 0)))) 0 0 (wA ad 8) := by
  refine c_ofW (cc := cX4_nameOf) (maxL := 3) (ret := .int) (by decide) rfl rfl (Nat.le_of_ble_eq_true rfl) ?_
  intro p e s m av below meth cd Q hx hb hF hP hK hD hT hret ls hl
  have hown : s.vm.findClass RX4 = some m.cls := hF.2.2.2.1
  have hF : CallFix p m cd cX4_nameOf 3 s av wsX4_nameOf RX4 := hF
  have hts := hF.2.2.2.2
  have hl : lv_has ls 3 [(0, .ref (ad 0)), (1, .int (nI c)), (2, .int v)] := hl
  obtain ⟨H, eH⟩ : ∃ H9 : Heap, H9 = s.heap := ⟨_, rfl⟩
  obtain ⟨locs, eL⟩ : ∃ L9 : List Loc, L9 = [] := ⟨_, rfl⟩
  have hS : sS (wA ad 8) s.heap H locs := by rw [eH, eL]; exact sS.rf
  rw [← eH] at hP
  suffices hgo : W p l e ({ frames := 2, cells := 0, slots := 0, locals := 43 }) s m av below meth cd H locs 0 0 Q (F0 m 0 ls []) by rw [eH, eL] at hgo; exact hgo
  clear eH eL
  refine lv_aload_n hx hb dX4_nameOf_0 rfl (lv_at hl 0 rfl) ?_
  refine lv_aload_n hx hb dX4_nameOf_1 rfl (lv_at hl 0 rfl) ?_
  refine lv_iload_n hx hb dX4_nameOf_2 rfl (lv_at hl 1 rfl) ?_
  refine k_Ri (va_runV (As := [.int (nI c)]) (rest := [.ref (ad 0)]) hF (c_X4_isCard l D cI cA ad th n y (nI c) hn) (cwV 1 hts gX4_nameOf_X4_isCard rfl rfl rfl (by decide +kernel) ⟨(Nat.le_of_ble_eq_true rfl), (Nat.le_of_ble_eq_true rfl)⟩) (k_pre hP hK hD hT (k := 0) (by decide) mF_0 rfl) rfl rfl hl.1 rfl (lv_room (Nat.le_of_ble_eq_true rfl)) dX4_nameOf_3 ⟨Nat.zero_le _, Nat.zero_le _⟩) ?_
  refine r_topi (show bI (cardB n (nI c)) = bI true from congrArg bI (cardB_ok hc hn)) ?_
  refine r_ifneB (b := true) (tgt := 13) hx hb dX4_nameOf_6 (by decide) (fun _ => ?_) (fun h => absurd h (by decide))
  refine lv_iload_n hx hb dX4_nameOf_13 rfl (lv_at hl 2 rfl) ?_
  refine lv_iconst (v := nI 0) hx hb dX4_nameOf_14 (by decide) ?_
  refine lv_iconst (v := nI 2) hx hb dX4_nameOf_15 (by decide) ?_
  refine k_Ri (va_runS (As := [.int v, .int (nI 0), .int (nI 2)]) (rest := [.ref (ad 0)]) hF (c_X4_isIn l v (nI 0) (nI 2)) (va_cwS 3 hts gX4_nameOf_X4_isIn rfl rfl rfl (by decide +kernel) ⟨(Nat.le_of_ble_eq_true rfl), (Nat.le_of_ble_eq_true rfl)⟩) k_preS rfl rfl hl.1 rfl (lv_room (Nat.le_of_ble_eq_true rfl)) dX4_nameOf_16 ⟨Nat.zero_le _, Nat.zero_le _⟩) ?_
  refine r_topi (show bI (inB v (nI 0) (nI 2)) = bI false from congrArg bI (inB_ver.trans hbad)) ?_
  refine r_ifneB (b := false) (tgt := 26) hx hb dX4_nameOf_19 (by decide) (fun h => absurd h (by decide)) (fun _ => ?_)
  refine lv_iconst (v := nI 2) hx hb dX4_nameOf_22 (by decide) ?_
  refine lv_goto (tgt := 27) hx hb dX4_nameOf_23 (by decide) ?_
  refine k_Wi (va_runV (As := [.int (nI 2)]) (rest := []) hF (c_X4_isFine_2 l D cI cA ad th n y) (cwV 1 hts gX4_nameOf_X4_isFine rfl rfl rfl (by decide +kernel) ⟨(Nat.le_of_ble_eq_true rfl), (Nat.le_of_ble_eq_true rfl)⟩) (k_pre hP hK hD hT (k := 0) (by decide) mF_0 rfl) rfl rfl hl.1 rfl (lv_room (Nat.le_of_ble_eq_true rfl)) dX4_nameOf_27 ⟨Nat.zero_le _, Nat.zero_le _⟩) hD hS (fun H locs hP hS => ?_)
  refine r_ifeqB (b := false) (tgt := 46) hx hb dX4_nameOf_30 (by decide) (fun _ => ?_) (fun h => absurd h (by decide))
  refine lv_iconst (v := nI 0) hx hb dX4_nameOf_46 (by decide) ?_
  exact hret _ _ _ _ _ _ hP hS dX4_nameOf_47 (rfl) (rfl)
set_option maxHeartbeats 4000000 in
set_option maxRecDepth 100000 in
theorem m_merged_0 (l : Launch) (D : va_G) (cI : ClassId) (cA : ClassId) (ad : Nat → Nat) (th : Int32) (n : Nat) (y : Nat → Nat → Int32) (c : Nat) (k : Nat) (hc : c < n) (hn : n ≤ 24) (hk : k < 2) : Met l yX4_merged wsX4_merged ({ frames := 2, cells := 0, slots := 0, locals := 46 }) (va_Pc [.ref (ad 0), .int (nI c), .int (nI k)] (mX D cI cA ad th n y)) (qW D ad (mF cI ad (nI 0) n y) 8 (some (.int (mSt y c k)))) 0 0 (wA ad 8) := by
  refine c_ofW (cc := cX4_merged) (maxL := 3) (ret := .int) (by decide) rfl rfl (Nat.le_of_ble_eq_true rfl) ?_
  intro p e s m av below meth cd Q hx hb hF hP hK hD hT hret ls hl
  have hown : s.vm.findClass RX4 = some m.cls := hF.2.2.2.1
  have hF : CallFix p m cd cX4_merged 3 s av wsX4_merged RX4 := hF
  have hts := hF.2.2.2.2
  have hl : lv_has ls 3 [(0, .ref (ad 0)), (1, .int (nI c)), (2, .int (nI k))] := hl
  obtain ⟨H, eH⟩ : ∃ H9 : Heap, H9 = s.heap := ⟨_, rfl⟩
  obtain ⟨locs, eL⟩ : ∃ L9 : List Loc, L9 = [] := ⟨_, rfl⟩
  have hS : sS (wA ad 8) s.heap H locs := by rw [eH, eL]; exact sS.rf
  rw [← eH] at hP
  suffices hgo : W p l e ({ frames := 2, cells := 0, slots := 0, locals := 46 }) s m av below meth cd H locs 0 0 Q (F0 m 0 ls []) by rw [eH, eL] at hgo; exact hgo
  clear eH eL
  refine lv_aload_n hx hb dX4_merged_0 rfl (lv_at hl 0 rfl) ?_
  refine lv_aload_n hx hb dX4_merged_1 rfl (lv_at hl 0 rfl) ?_
  refine lv_iload_n hx hb dX4_merged_2 rfl (lv_at hl 1 rfl) ?_
  refine k_Ri (va_runV (As := [.int (nI c)]) (rest := [.ref (ad 0)]) hF (c_X4_isCard l D cI cA ad th n y (nI c) hn) (cwV 1 hts gX4_merged_X4_isCard rfl rfl rfl (by decide +kernel) ⟨(Nat.le_of_ble_eq_true rfl), (Nat.le_of_ble_eq_true rfl)⟩) (k_pre hP hK hD hT (k := 0) (by decide) mF_0 rfl) rfl rfl hl.1 rfl (lv_room (Nat.le_of_ble_eq_true rfl)) dX4_merged_3 ⟨Nat.zero_le _, Nat.zero_le _⟩) ?_
  refine r_topi (show bI (cardB n (nI c)) = bI true from congrArg bI (cardB_ok hc hn)) ?_
  refine r_ifneB (b := true) (tgt := 13) hx hb dX4_merged_6 (by decide) (fun _ => ?_) (fun h => absurd h (by decide))
  refine lv_iload_n hx hb dX4_merged_13 rfl (lv_at hl 2 rfl) ?_
  refine k_Ri (va_runS (As := [.int (nI k)]) (rest := [.ref (ad 0)]) hF (c_X4_isKind l (nI k)) (va_cwS 1 hts gX4_merged_X4_isKind rfl rfl rfl (by decide +kernel) ⟨(Nat.le_of_ble_eq_true rfl), (Nat.le_of_ble_eq_true rfl)⟩) k_preS rfl rfl hl.1 rfl (lv_room (Nat.le_of_ble_eq_true rfl)) dX4_merged_14 ⟨Nat.zero_le _, Nat.zero_le _⟩) ?_
  refine r_topi (show bI (kindB (nI k)) = bI true from congrArg bI (kindB_ok hk)) ?_
  refine r_ifneB (b := true) (tgt := 24) hx hb dX4_merged_17 (by decide) (fun _ => ?_) (fun h => absurd h (by decide))
  refine lv_iconst (v := nI 0) hx hb dX4_merged_24 (by decide) ?_
  refine k_Wi (va_runV (As := [.int (nI 0)]) (rest := []) hF (c_X4_isFine_0 l D cI cA ad th n y) (cwV 1 hts gX4_merged_X4_isFine rfl rfl rfl (by decide +kernel) ⟨(Nat.le_of_ble_eq_true rfl), (Nat.le_of_ble_eq_true rfl)⟩) (k_pre hP hK hD hT (k := 0) (by decide) mF_0 rfl) rfl rfl hl.1 rfl (lv_room (Nat.le_of_ble_eq_true rfl)) dX4_merged_25 ⟨Nat.zero_le _, Nat.zero_le _⟩) hD hS (fun H locs hP hS => ?_)
  refine r_ifeqB (b := true) (tgt := 40) hx hb dX4_merged_28 (by decide) (fun h => absurd h (by decide)) (fun _ => ?_)
  refine lv_aload_n hx hb dX4_merged_31 rfl (lv_at hl 0 rfl) ?_
  refine lv_iload_n hx hb dX4_merged_32 rfl (lv_at hl 1 rfl) ?_
  refine lv_iload_n hx hb dX4_merged_33 rfl (lv_at hl 2 rfl) ?_
  refine k_Ri (va_runV (As := [.int (nI c), .int (nI k)]) (rest := []) hF (c_X4_mergedOf l D cI cA ad (nI 0) n y c k (by omega) hk) (cwV 2 hts gX4_merged_X4_mergedOf rfl rfl rfl (by decide +kernel) ⟨(Nat.le_of_ble_eq_true rfl), (Nat.le_of_ble_eq_true rfl)⟩) (k_pre hP hK hD hT (k := 0) (by decide) mF_0 rfl) rfl rfl hl.1 rfl (lv_room (Nat.le_of_ble_eq_true rfl)) dX4_merged_34 ⟨Nat.zero_le _, Nat.zero_le _⟩) ?_
  refine lv_goto (tgt := 41) hx hb dX4_merged_37 (by decide) ?_
  exact hret _ _ _ _ _ _ hP hS dX4_merged_41 (rfl) (rfl)
set_option maxHeartbeats 4000000 in
set_option maxRecDepth 100000 in
theorem m_merged_1 (l : Launch) (D : va_G) (cI : ClassId) (cA : ClassId) (ad : Nat → Nat) (th : Int32) (n : Nat) (y : Nat → Nat → Int32) (a : Int32) (k : Int32) (hca : cardB n a = false) (hn : n ≤ 24) : Met l yX4_merged wsX4_merged ({ frames := 2, cells := 0, slots := 0, locals := 43 }) (va_Pc [.ref (ad 0), .int a, .int k] (mX D cI cA ad th n y)) (qW D ad (mF cI ad (nI 1) n y) 8 (some (.int (nI 0)))) 0 0 (wA ad 8) := by
  refine c_ofW (cc := cX4_merged) (maxL := 3) (ret := .int) (by decide) rfl rfl (Nat.le_of_ble_eq_true rfl) ?_
  intro p e s m av below meth cd Q hx hb hF hP hK hD hT hret ls hl
  have hown : s.vm.findClass RX4 = some m.cls := hF.2.2.2.1
  have hF : CallFix p m cd cX4_merged 3 s av wsX4_merged RX4 := hF
  have hts := hF.2.2.2.2
  have hl : lv_has ls 3 [(0, .ref (ad 0)), (1, .int a), (2, .int k)] := hl
  obtain ⟨H, eH⟩ : ∃ H9 : Heap, H9 = s.heap := ⟨_, rfl⟩
  obtain ⟨locs, eL⟩ : ∃ L9 : List Loc, L9 = [] := ⟨_, rfl⟩
  have hS : sS (wA ad 8) s.heap H locs := by rw [eH, eL]; exact sS.rf
  rw [← eH] at hP
  suffices hgo : W p l e ({ frames := 2, cells := 0, slots := 0, locals := 43 }) s m av below meth cd H locs 0 0 Q (F0 m 0 ls []) by rw [eH, eL] at hgo; exact hgo
  clear eH eL
  refine lv_aload_n hx hb dX4_merged_0 rfl (lv_at hl 0 rfl) ?_
  refine lv_aload_n hx hb dX4_merged_1 rfl (lv_at hl 0 rfl) ?_
  refine lv_iload_n hx hb dX4_merged_2 rfl (lv_at hl 1 rfl) ?_
  refine k_Ri (va_runV (As := [.int a]) (rest := [.ref (ad 0)]) hF (c_X4_isCard l D cI cA ad th n y a hn) (cwV 1 hts gX4_merged_X4_isCard rfl rfl rfl (by decide +kernel) ⟨(Nat.le_of_ble_eq_true rfl), (Nat.le_of_ble_eq_true rfl)⟩) (k_pre hP hK hD hT (k := 0) (by decide) mF_0 rfl) rfl rfl hl.1 rfl (lv_room (Nat.le_of_ble_eq_true rfl)) dX4_merged_3 ⟨Nat.zero_le _, Nat.zero_le _⟩) ?_
  refine r_topi (show bI (cardB n a) = bI false from congrArg bI (hca)) ?_
  refine r_ifneB (b := false) (tgt := 13) hx hb dX4_merged_6 (by decide) (fun h => absurd h (by decide)) (fun _ => ?_)
  refine lv_iconst (v := nI 1) hx hb dX4_merged_9 (by decide) ?_
  refine lv_goto (tgt := 25) hx hb dX4_merged_10 (by decide) ?_
  refine k_Wi (va_runV (As := [.int (nI 1)]) (rest := []) hF (c_X4_isFine_1 l D cI cA ad th n y) (cwV 1 hts gX4_merged_X4_isFine rfl rfl rfl (by decide +kernel) ⟨(Nat.le_of_ble_eq_true rfl), (Nat.le_of_ble_eq_true rfl)⟩) (k_pre hP hK hD hT (k := 0) (by decide) mF_0 rfl) rfl rfl hl.1 rfl (lv_room (Nat.le_of_ble_eq_true rfl)) dX4_merged_25 ⟨Nat.zero_le _, Nat.zero_le _⟩) hD hS (fun H locs hP hS => ?_)
  refine r_ifeqB (b := false) (tgt := 40) hx hb dX4_merged_28 (by decide) (fun _ => ?_) (fun h => absurd h (by decide))
  refine lv_iconst (v := nI 0) hx hb dX4_merged_40 (by decide) ?_
  exact hret _ _ _ _ _ _ hP hS dX4_merged_41 (rfl) (rfl)
set_option maxHeartbeats 4000000 in
set_option maxRecDepth 100000 in
theorem m_merged_2 (l : Launch) (D : va_G) (cI : ClassId) (cA : ClassId) (ad : Nat → Nat) (th : Int32) (n : Nat) (y : Nat → Nat → Int32) (c : Nat) (k : Int32) (hc : c < n) (hn : n ≤ 24) (hbad : (kindB k) = false) : Met l yX4_merged wsX4_merged ({ frames := 2, cells := 0, slots := 0, locals := 43 }) (va_Pc [.ref (ad 0), .int (nI c), .int k] (mX D cI cA ad th n y)) (qW D ad (mF cI ad (nI 2) n y) 8 (some (.int (nI 0)))) 0 0 (wA ad 8) := by
  refine c_ofW (cc := cX4_merged) (maxL := 3) (ret := .int) (by decide) rfl rfl (Nat.le_of_ble_eq_true rfl) ?_
  intro p e s m av below meth cd Q hx hb hF hP hK hD hT hret ls hl
  have hown : s.vm.findClass RX4 = some m.cls := hF.2.2.2.1
  have hF : CallFix p m cd cX4_merged 3 s av wsX4_merged RX4 := hF
  have hts := hF.2.2.2.2
  have hl : lv_has ls 3 [(0, .ref (ad 0)), (1, .int (nI c)), (2, .int k)] := hl
  obtain ⟨H, eH⟩ : ∃ H9 : Heap, H9 = s.heap := ⟨_, rfl⟩
  obtain ⟨locs, eL⟩ : ∃ L9 : List Loc, L9 = [] := ⟨_, rfl⟩
  have hS : sS (wA ad 8) s.heap H locs := by rw [eH, eL]; exact sS.rf
  rw [← eH] at hP
  suffices hgo : W p l e ({ frames := 2, cells := 0, slots := 0, locals := 43 }) s m av below meth cd H locs 0 0 Q (F0 m 0 ls []) by rw [eH, eL] at hgo; exact hgo
  clear eH eL
  refine lv_aload_n hx hb dX4_merged_0 rfl (lv_at hl 0 rfl) ?_
  refine lv_aload_n hx hb dX4_merged_1 rfl (lv_at hl 0 rfl) ?_
  refine lv_iload_n hx hb dX4_merged_2 rfl (lv_at hl 1 rfl) ?_
  refine k_Ri (va_runV (As := [.int (nI c)]) (rest := [.ref (ad 0)]) hF (c_X4_isCard l D cI cA ad th n y (nI c) hn) (cwV 1 hts gX4_merged_X4_isCard rfl rfl rfl (by decide +kernel) ⟨(Nat.le_of_ble_eq_true rfl), (Nat.le_of_ble_eq_true rfl)⟩) (k_pre hP hK hD hT (k := 0) (by decide) mF_0 rfl) rfl rfl hl.1 rfl (lv_room (Nat.le_of_ble_eq_true rfl)) dX4_merged_3 ⟨Nat.zero_le _, Nat.zero_le _⟩) ?_
  refine r_topi (show bI (cardB n (nI c)) = bI true from congrArg bI (cardB_ok hc hn)) ?_
  refine r_ifneB (b := true) (tgt := 13) hx hb dX4_merged_6 (by decide) (fun _ => ?_) (fun h => absurd h (by decide))
  refine lv_iload_n hx hb dX4_merged_13 rfl (lv_at hl 2 rfl) ?_
  refine k_Ri (va_runS (As := [.int k]) (rest := [.ref (ad 0)]) hF (c_X4_isKind l k) (va_cwS 1 hts gX4_merged_X4_isKind rfl rfl rfl (by decide +kernel) ⟨(Nat.le_of_ble_eq_true rfl), (Nat.le_of_ble_eq_true rfl)⟩) k_preS rfl rfl hl.1 rfl (lv_room (Nat.le_of_ble_eq_true rfl)) dX4_merged_14 ⟨Nat.zero_le _, Nat.zero_le _⟩) ?_
  refine r_topi (show bI (kindB k) = bI false from congrArg bI (hbad)) ?_
  refine r_ifneB (b := false) (tgt := 24) hx hb dX4_merged_17 (by decide) (fun h => absurd h (by decide)) (fun _ => ?_)
  refine lv_iconst (v := nI 2) hx hb dX4_merged_20 (by decide) ?_
  refine lv_goto (tgt := 25) hx hb dX4_merged_21 (by decide) ?_
  refine k_Wi (va_runV (As := [.int (nI 2)]) (rest := []) hF (c_X4_isFine_2 l D cI cA ad th n y) (cwV 1 hts gX4_merged_X4_isFine rfl rfl rfl (by decide +kernel) ⟨(Nat.le_of_ble_eq_true rfl), (Nat.le_of_ble_eq_true rfl)⟩) (k_pre hP hK hD hT (k := 0) (by decide) mF_0 rfl) rfl rfl hl.1 rfl (lv_room (Nat.le_of_ble_eq_true rfl)) dX4_merged_25 ⟨Nat.zero_le _, Nat.zero_le _⟩) hD hS (fun H locs hP hS => ?_)
  refine r_ifeqB (b := false) (tgt := 40) hx hb dX4_merged_28 (by decide) (fun _ => ?_) (fun h => absurd h (by decide))
  refine lv_iconst (v := nI 0) hx hb dX4_merged_40 (by decide) ?_
  exact hret _ _ _ _ _ _ hP hS dX4_merged_41 (rfl) (rfl)
set_option maxHeartbeats 4000000 in
set_option maxRecDepth 100000 in
theorem m_mergedByValues_0 (l : Launch) (D : va_G) (cI : ClassId) (cA : ClassId) (ad : Nat → Nat) (th : Int32) (n : Nat) (y : Nat → Nat → Int32) (c : Nat) (k : Nat) (hc : c < n) (hn : n ≤ 24) (hk : k < 2) : Met l yX4_mergedByValues wsX4_mergedByValues ({ frames := 2, cells := 0, slots := 0, locals := 46 }) (va_Pc [.ref (ad 0), .int (nI c), .int (nI k)] (mX D cI cA ad th n y)) (qW D ad (mF cI ad (nI 0) n y) 8 (some (.int (mSt y c k)))) 0 0 (wA ad 8) := by
  refine c_ofW (cc := cX4_mergedByValues) (maxL := 3) (ret := .int) (by decide) rfl rfl (Nat.le_of_ble_eq_true rfl) ?_
  intro p e s m av below meth cd Q hx hb hF hP hK hD hT hret ls hl
  have hown : s.vm.findClass RX4 = some m.cls := hF.2.2.2.1
  have hF : CallFix p m cd cX4_mergedByValues 3 s av wsX4_mergedByValues RX4 := hF
  have hts := hF.2.2.2.2
  have hl : lv_has ls 3 [(0, .ref (ad 0)), (1, .int (nI c)), (2, .int (nI k))] := hl
  obtain ⟨H, eH⟩ : ∃ H9 : Heap, H9 = s.heap := ⟨_, rfl⟩
  obtain ⟨locs, eL⟩ : ∃ L9 : List Loc, L9 = [] := ⟨_, rfl⟩
  have hS : sS (wA ad 8) s.heap H locs := by rw [eH, eL]; exact sS.rf
  rw [← eH] at hP
  suffices hgo : W p l e ({ frames := 2, cells := 0, slots := 0, locals := 46 }) s m av below meth cd H locs 0 0 Q (F0 m 0 ls []) by rw [eH, eL] at hgo; exact hgo
  clear eH eL
  refine lv_aload_n hx hb dX4_mergedByValues_0 rfl (lv_at hl 0 rfl) ?_
  refine lv_aload_n hx hb dX4_mergedByValues_1 rfl (lv_at hl 0 rfl) ?_
  refine lv_iload_n hx hb dX4_mergedByValues_2 rfl (lv_at hl 1 rfl) ?_
  refine k_Ri (va_runV (As := [.int (nI c)]) (rest := [.ref (ad 0)]) hF (c_X4_isCard l D cI cA ad th n y (nI c) hn) (cwV 1 hts gX4_mergedByValues_X4_isCard rfl rfl rfl (by decide +kernel) ⟨(Nat.le_of_ble_eq_true rfl), (Nat.le_of_ble_eq_true rfl)⟩) (k_pre hP hK hD hT (k := 0) (by decide) mF_0 rfl) rfl rfl hl.1 rfl (lv_room (Nat.le_of_ble_eq_true rfl)) dX4_mergedByValues_3 ⟨Nat.zero_le _, Nat.zero_le _⟩) ?_
  refine r_topi (show bI (cardB n (nI c)) = bI true from congrArg bI (cardB_ok hc hn)) ?_
  refine r_ifneB (b := true) (tgt := 13) hx hb dX4_mergedByValues_6 (by decide) (fun _ => ?_) (fun h => absurd h (by decide))
  refine lv_iload_n hx hb dX4_mergedByValues_13 rfl (lv_at hl 2 rfl) ?_
  refine k_Ri (va_runS (As := [.int (nI k)]) (rest := [.ref (ad 0)]) hF (c_X4_isKind l (nI k)) (va_cwS 1 hts gX4_mergedByValues_X4_isKind rfl rfl rfl (by decide +kernel) ⟨(Nat.le_of_ble_eq_true rfl), (Nat.le_of_ble_eq_true rfl)⟩) k_preS rfl rfl hl.1 rfl (lv_room (Nat.le_of_ble_eq_true rfl)) dX4_mergedByValues_14 ⟨Nat.zero_le _, Nat.zero_le _⟩) ?_
  refine r_topi (show bI (kindB (nI k)) = bI true from congrArg bI (kindB_ok hk)) ?_
  refine r_ifneB (b := true) (tgt := 24) hx hb dX4_mergedByValues_17 (by decide) (fun _ => ?_) (fun h => absurd h (by decide))
  refine lv_iconst (v := nI 0) hx hb dX4_mergedByValues_24 (by decide) ?_
  refine k_Wi (va_runV (As := [.int (nI 0)]) (rest := []) hF (c_X4_isFine_0 l D cI cA ad th n y) (cwV 1 hts gX4_mergedByValues_X4_isFine rfl rfl rfl (by decide +kernel) ⟨(Nat.le_of_ble_eq_true rfl), (Nat.le_of_ble_eq_true rfl)⟩) (k_pre hP hK hD hT (k := 0) (by decide) mF_0 rfl) rfl rfl hl.1 rfl (lv_room (Nat.le_of_ble_eq_true rfl)) dX4_mergedByValues_25 ⟨Nat.zero_le _, Nat.zero_le _⟩) hD hS (fun H locs hP hS => ?_)
  refine r_ifeqB (b := true) (tgt := 40) hx hb dX4_mergedByValues_28 (by decide) (fun h => absurd h (by decide)) (fun _ => ?_)
  refine lv_aload_n hx hb dX4_mergedByValues_31 rfl (lv_at hl 0 rfl) ?_
  refine lv_iload_n hx hb dX4_mergedByValues_32 rfl (lv_at hl 1 rfl) ?_
  refine lv_iload_n hx hb dX4_mergedByValues_33 rfl (lv_at hl 2 rfl) ?_
  refine k_Ri (va_runV (As := [.int (nI c), .int (nI k)]) (rest := []) hF (c_X4_mergedOf l D cI cA ad (nI 0) n y c k (by omega) hk) (cwV 2 hts gX4_mergedByValues_X4_mergedOf rfl rfl rfl (by decide +kernel) ⟨(Nat.le_of_ble_eq_true rfl), (Nat.le_of_ble_eq_true rfl)⟩) (k_pre hP hK hD hT (k := 0) (by decide) mF_0 rfl) rfl rfl hl.1 rfl (lv_room (Nat.le_of_ble_eq_true rfl)) dX4_mergedByValues_34 ⟨Nat.zero_le _, Nat.zero_le _⟩) ?_
  refine lv_goto (tgt := 41) hx hb dX4_mergedByValues_37 (by decide) ?_
  exact hret _ _ _ _ _ _ hP hS dX4_mergedByValues_41 (rfl) (rfl)
set_option maxHeartbeats 4000000 in
set_option maxRecDepth 100000 in
theorem m_mergedByValues_1 (l : Launch) (D : va_G) (cI : ClassId) (cA : ClassId) (ad : Nat → Nat) (th : Int32) (n : Nat) (y : Nat → Nat → Int32) (a : Int32) (k : Int32) (hca : cardB n a = false) (hn : n ≤ 24) : Met l yX4_mergedByValues wsX4_mergedByValues ({ frames := 2, cells := 0, slots := 0, locals := 43 }) (va_Pc [.ref (ad 0), .int a, .int k] (mX D cI cA ad th n y)) (qW D ad (mF cI ad (nI 1) n y) 8 (some (.int (nI 0)))) 0 0 (wA ad 8) := by
  refine c_ofW (cc := cX4_mergedByValues) (maxL := 3) (ret := .int) (by decide) rfl rfl (Nat.le_of_ble_eq_true rfl) ?_
  intro p e s m av below meth cd Q hx hb hF hP hK hD hT hret ls hl
  have hown : s.vm.findClass RX4 = some m.cls := hF.2.2.2.1
  have hF : CallFix p m cd cX4_mergedByValues 3 s av wsX4_mergedByValues RX4 := hF
  have hts := hF.2.2.2.2
  have hl : lv_has ls 3 [(0, .ref (ad 0)), (1, .int a), (2, .int k)] := hl
  obtain ⟨H, eH⟩ : ∃ H9 : Heap, H9 = s.heap := ⟨_, rfl⟩
  obtain ⟨locs, eL⟩ : ∃ L9 : List Loc, L9 = [] := ⟨_, rfl⟩
  have hS : sS (wA ad 8) s.heap H locs := by rw [eH, eL]; exact sS.rf
  rw [← eH] at hP
  suffices hgo : W p l e ({ frames := 2, cells := 0, slots := 0, locals := 43 }) s m av below meth cd H locs 0 0 Q (F0 m 0 ls []) by rw [eH, eL] at hgo; exact hgo
  clear eH eL
  refine lv_aload_n hx hb dX4_mergedByValues_0 rfl (lv_at hl 0 rfl) ?_
  refine lv_aload_n hx hb dX4_mergedByValues_1 rfl (lv_at hl 0 rfl) ?_
  refine lv_iload_n hx hb dX4_mergedByValues_2 rfl (lv_at hl 1 rfl) ?_
  refine k_Ri (va_runV (As := [.int a]) (rest := [.ref (ad 0)]) hF (c_X4_isCard l D cI cA ad th n y a hn) (cwV 1 hts gX4_mergedByValues_X4_isCard rfl rfl rfl (by decide +kernel) ⟨(Nat.le_of_ble_eq_true rfl), (Nat.le_of_ble_eq_true rfl)⟩) (k_pre hP hK hD hT (k := 0) (by decide) mF_0 rfl) rfl rfl hl.1 rfl (lv_room (Nat.le_of_ble_eq_true rfl)) dX4_mergedByValues_3 ⟨Nat.zero_le _, Nat.zero_le _⟩) ?_
  refine r_topi (show bI (cardB n a) = bI false from congrArg bI (hca)) ?_
  refine r_ifneB (b := false) (tgt := 13) hx hb dX4_mergedByValues_6 (by decide) (fun h => absurd h (by decide)) (fun _ => ?_)
  refine lv_iconst (v := nI 1) hx hb dX4_mergedByValues_9 (by decide) ?_
  refine lv_goto (tgt := 25) hx hb dX4_mergedByValues_10 (by decide) ?_
  refine k_Wi (va_runV (As := [.int (nI 1)]) (rest := []) hF (c_X4_isFine_1 l D cI cA ad th n y) (cwV 1 hts gX4_mergedByValues_X4_isFine rfl rfl rfl (by decide +kernel) ⟨(Nat.le_of_ble_eq_true rfl), (Nat.le_of_ble_eq_true rfl)⟩) (k_pre hP hK hD hT (k := 0) (by decide) mF_0 rfl) rfl rfl hl.1 rfl (lv_room (Nat.le_of_ble_eq_true rfl)) dX4_mergedByValues_25 ⟨Nat.zero_le _, Nat.zero_le _⟩) hD hS (fun H locs hP hS => ?_)
  refine r_ifeqB (b := false) (tgt := 40) hx hb dX4_mergedByValues_28 (by decide) (fun _ => ?_) (fun h => absurd h (by decide))
  refine lv_iconst (v := nI 0) hx hb dX4_mergedByValues_40 (by decide) ?_
  exact hret _ _ _ _ _ _ hP hS dX4_mergedByValues_41 (rfl) (rfl)
set_option maxHeartbeats 4000000 in
set_option maxRecDepth 100000 in
theorem m_mergedByValues_2 (l : Launch) (D : va_G) (cI : ClassId) (cA : ClassId) (ad : Nat → Nat) (th : Int32) (n : Nat) (y : Nat → Nat → Int32) (c : Nat) (k : Int32) (hc : c < n) (hn : n ≤ 24) (hbad : (kindB k) = false) : Met l yX4_mergedByValues wsX4_mergedByValues ({ frames := 2, cells := 0, slots := 0, locals := 43 }) (va_Pc [.ref (ad 0), .int (nI c), .int k] (mX D cI cA ad th n y)) (qW D ad (mF cI ad (nI 2) n y) 8 (some (.int (nI 0)))) 0 0 (wA ad 8) := by
  refine c_ofW (cc := cX4_mergedByValues) (maxL := 3) (ret := .int) (by decide) rfl rfl (Nat.le_of_ble_eq_true rfl) ?_
  intro p e s m av below meth cd Q hx hb hF hP hK hD hT hret ls hl
  have hown : s.vm.findClass RX4 = some m.cls := hF.2.2.2.1
  have hF : CallFix p m cd cX4_mergedByValues 3 s av wsX4_mergedByValues RX4 := hF
  have hts := hF.2.2.2.2
  have hl : lv_has ls 3 [(0, .ref (ad 0)), (1, .int (nI c)), (2, .int k)] := hl
  obtain ⟨H, eH⟩ : ∃ H9 : Heap, H9 = s.heap := ⟨_, rfl⟩
  obtain ⟨locs, eL⟩ : ∃ L9 : List Loc, L9 = [] := ⟨_, rfl⟩
  have hS : sS (wA ad 8) s.heap H locs := by rw [eH, eL]; exact sS.rf
  rw [← eH] at hP
  suffices hgo : W p l e ({ frames := 2, cells := 0, slots := 0, locals := 43 }) s m av below meth cd H locs 0 0 Q (F0 m 0 ls []) by rw [eH, eL] at hgo; exact hgo
  clear eH eL
  refine lv_aload_n hx hb dX4_mergedByValues_0 rfl (lv_at hl 0 rfl) ?_
  refine lv_aload_n hx hb dX4_mergedByValues_1 rfl (lv_at hl 0 rfl) ?_
  refine lv_iload_n hx hb dX4_mergedByValues_2 rfl (lv_at hl 1 rfl) ?_
  refine k_Ri (va_runV (As := [.int (nI c)]) (rest := [.ref (ad 0)]) hF (c_X4_isCard l D cI cA ad th n y (nI c) hn) (cwV 1 hts gX4_mergedByValues_X4_isCard rfl rfl rfl (by decide +kernel) ⟨(Nat.le_of_ble_eq_true rfl), (Nat.le_of_ble_eq_true rfl)⟩) (k_pre hP hK hD hT (k := 0) (by decide) mF_0 rfl) rfl rfl hl.1 rfl (lv_room (Nat.le_of_ble_eq_true rfl)) dX4_mergedByValues_3 ⟨Nat.zero_le _, Nat.zero_le _⟩) ?_
  refine r_topi (show bI (cardB n (nI c)) = bI true from congrArg bI (cardB_ok hc hn)) ?_
  refine r_ifneB (b := true) (tgt := 13) hx hb dX4_mergedByValues_6 (by decide) (fun _ => ?_) (fun h => absurd h (by decide))
  refine lv_iload_n hx hb dX4_mergedByValues_13 rfl (lv_at hl 2 rfl) ?_
  refine k_Ri (va_runS (As := [.int k]) (rest := [.ref (ad 0)]) hF (c_X4_isKind l k) (va_cwS 1 hts gX4_mergedByValues_X4_isKind rfl rfl rfl (by decide +kernel) ⟨(Nat.le_of_ble_eq_true rfl), (Nat.le_of_ble_eq_true rfl)⟩) k_preS rfl rfl hl.1 rfl (lv_room (Nat.le_of_ble_eq_true rfl)) dX4_mergedByValues_14 ⟨Nat.zero_le _, Nat.zero_le _⟩) ?_
  refine r_topi (show bI (kindB k) = bI false from congrArg bI (hbad)) ?_
  refine r_ifneB (b := false) (tgt := 24) hx hb dX4_mergedByValues_17 (by decide) (fun h => absurd h (by decide)) (fun _ => ?_)
  refine lv_iconst (v := nI 2) hx hb dX4_mergedByValues_20 (by decide) ?_
  refine lv_goto (tgt := 25) hx hb dX4_mergedByValues_21 (by decide) ?_
  refine k_Wi (va_runV (As := [.int (nI 2)]) (rest := []) hF (c_X4_isFine_2 l D cI cA ad th n y) (cwV 1 hts gX4_mergedByValues_X4_isFine rfl rfl rfl (by decide +kernel) ⟨(Nat.le_of_ble_eq_true rfl), (Nat.le_of_ble_eq_true rfl)⟩) (k_pre hP hK hD hT (k := 0) (by decide) mF_0 rfl) rfl rfl hl.1 rfl (lv_room (Nat.le_of_ble_eq_true rfl)) dX4_mergedByValues_25 ⟨Nat.zero_le _, Nat.zero_le _⟩) hD hS (fun H locs hP hS => ?_)
  refine r_ifeqB (b := false) (tgt := 40) hx hb dX4_mergedByValues_28 (by decide) (fun _ => ?_) (fun h => absurd h (by decide))
  refine lv_iconst (v := nI 0) hx hb dX4_mergedByValues_40 (by decide) ?_
  exact hret _ _ _ _ _ _ hP hS dX4_mergedByValues_41 (rfl) (rfl)
