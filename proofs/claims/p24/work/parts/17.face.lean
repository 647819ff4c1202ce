set_option maxHeartbeats 4000000 in
set_option maxRecDepth 100000 in
theorem c_X3_add (l : Launch) (D : va_G) (cI : ClassId) (cA : ClassId) (ad : Nat → Nat) (n : Nat) (x : Nat → Nat → Int32) (b : Int32) (w : Int32) (hbk : bookB b = true) (hnm : nameB w = true) (hn : n < 24) : Met l yX3_add wsX3_add ({ frames := 1, cells := 0, slots := 0, locals := 24 }) (va_Pc [.ref (ad 0), .int b, .int w] (cX D cI cA ad n x)) (qW D ad (cF cI cA ad (n + 1) (appE x n b w)) 46 (some (.int (nI n)))) 0 0 (wA ad 46) := by
  refine c_ofW (cc := cX3_add) (maxL := 3) (ret := .int) (by decide) rfl rfl (Nat.le_of_ble_eq_true rfl) ?_
  intro p e s m av below meth cd Q hx hb hF hP hK hD hT hret ls hl
  have hown : s.vm.findClass RX3 = some m.cls := hF.2.2.2.1
  have hF : CallFix p m cd cX3_add 3 s av wsX3_add RX3 := hF
  have hts := hF.2.2.2.2
  have hl : lv_has ls 3 [(0, .ref (ad 0)), (1, .int b), (2, .int w)] := hl
  obtain ⟨H, eH⟩ : ∃ H9 : Heap, H9 = s.heap := ⟨_, rfl⟩
  obtain ⟨locs, eL⟩ : ∃ L9 : List Loc, L9 = [] := ⟨_, rfl⟩
  have hS : sS (wA ad 46) s.heap H locs := by rw [eH, eL]; exact sS.rf
  rw [← eH] at hP
  suffices hgo : W p l e ({ frames := 1, cells := 0, slots := 0, locals := 24 }) s m av below meth cd H locs 0 0 Q (F0 m 0 ls []) by rw [eH, eL] at hgo; exact hgo
  clear eH eL
  refine lv_aload_n hx hb dX3_add_0 rfl (lv_at hl 0 rfl) ?_
  refine lv_iload_n hx hb dX3_add_1 rfl (lv_at hl 1 rfl) ?_
  refine k_Rv (va_runV (As := [.int b]) (rest := []) hF (c_X3_checkBook l D cI cA ad n x b hbk) (cwV 1 hts gX3_add_X3_checkBook rfl rfl rfl (by decide +kernel) ⟨(Nat.le_of_ble_eq_true rfl), (Nat.le_of_ble_eq_true rfl)⟩) (k_pre hP hK hD hT (k := 0) (by decide) cF_0 rfl) rfl rfl hl.1 rfl (lv_room (Nat.le_of_ble_eq_true rfl)) dX3_add_2 ⟨Nat.zero_le _, Nat.zero_le _⟩) ?_
  refine lv_iload_n hx hb dX3_add_5 rfl (lv_at hl 2 rfl) ?_
  refine k_Ri (va_runS (As := [.int w]) (rest := []) hF (c_X3_isName l w) (va_cwS 1 hts gX3_add_X3_isName rfl rfl rfl (by decide +kernel) ⟨(Nat.le_of_ble_eq_true rfl), (Nat.le_of_ble_eq_true rfl)⟩) k_preS rfl rfl hl.1 rfl (lv_room (Nat.le_of_ble_eq_true rfl)) dX3_add_6 ⟨Nat.zero_le _, Nat.zero_le _⟩) ?_
  refine r_topi (show bI (nameB w) = bI true from congrArg bI (hnm)) ?_
  refine k_Rv (va_runS (As := [.int (bI true)]) (rest := []) hF (c_X3_checkArgument l) (va_cwS 1 hts gX3_add_X3_checkArgument rfl rfl rfl (by decide +kernel) ⟨(Nat.le_of_ble_eq_true rfl), (Nat.le_of_ble_eq_true rfl)⟩) k_preS rfl rfl hl.1 rfl (lv_room (Nat.le_of_ble_eq_true rfl)) dX3_add_9 ⟨Nat.zero_le _, Nat.zero_le _⟩) ?_
  refine lv_aload_n hx hb dX3_add_12 rfl (lv_at hl 0 rfl) ?_
  refine r_get (C := RX3) (T := TX3) (M := 4) (index := 12) (fd := "cards") (fo := "LCardMerger$Cards;") hx hb hts (by decide +kernel) hown hK hP 0 (by decide) cF_0 rfl 0 (by decide) rfl (by decide +kernel) rfl dX3_add_13 ?_
  refine r_cnt hx hb hts (by decide +kernel) hown hK hP hT.1 dX3_add_16 ?_
  refine lv_bipush (v := nI 24) hx hb dX3_add_19 (by decide) ?_
  refine r_cltN (a := n) (b := 24) (tgt := 34) hx hb (by omega) (by omega) dX3_add_21 (by decide) (fun _ => ?_) (fun h => absurd h (by omega))
  refine lv_aload_n hx hb dX3_add_34 rfl (lv_at hl 0 rfl) ?_
  refine r_get (C := RX3) (T := TX3) (M := 4) (index := 12) (fd := "cards") (fo := "LCardMerger$Cards;") hx hb hts (by decide +kernel) hown hK hP 0 (by decide) cF_0 rfl 0 (by decide) rfl (by decide +kernel) rfl dX3_add_35 ?_
  refine lv_iload_n hx hb dX3_add_38 rfl (lv_at hl 1 rfl) ?_
  refine lv_iload_n hx hb dX3_add_39 rfl (lv_at hl 2 rfl) ?_
  refine k_Wi (va_runV (As := [.int b, .int w]) (rest := []) hF (c_X0_append l D cI cA ad n x b w hn) (cwV 2 hts gX3_add_X0_append rfl rfl rfl (by decide +kernel) ⟨(Nat.le_of_ble_eq_true rfl), (Nat.le_of_ble_eq_true rfl)⟩) (k_pre hP hK hD hT (k := 1) (by decide) cF_1 rfl) rfl rfl hl.1 rfl (lv_room (Nat.le_of_ble_eq_true rfl)) dX3_add_40 ⟨Nat.zero_le _, Nat.zero_le _⟩) hD hS (fun H locs hP hS => ?_)
  exact hret _ _ _ _ _ _ hP hS dX3_add_43 (rfl) (rfl)
set_option maxHeartbeats 4000000 in
set_option maxRecDepth 100000 in
theorem c_X3_turn (l : Launch) (D : va_G) (cI : ClassId) (cA : ClassId) (ad : Nat → Nat) (n : Nat) (x : Nat → Nat → Int32) (c : Nat) (v : Nat) (k : Nat) (w : Nat) (hc : c < n) (hn : n ≤ 24) (hv : v < 2) (hk : k < 2) (hw : w < 30) : Met l yX3_turn wsX3_turn ({ frames := 2, cells := 0, slots := 0, locals := 47 }) (va_Pc [.ref (ad 0), .int (nI c), .int (nI v), .int (nI k), .int (nI w)] (cX D cI cA ad n x)) (qW D ad (cF cI cA ad n (putS x c v k (x (2 * v + k + 16) c ^^^ bit w))) 46 (some (.int (bI (hasB (x (2 * v + k + 16) c ^^^ bit w) w))))) 0 0 (wA ad 46) := by
  refine c_ofW (cc := cX3_turn) (maxL := 6) (ret := .boolean) (by decide) rfl (nar_bI _) (Nat.le_of_ble_eq_true rfl) ?_
  intro p e s m av below meth cd Q hx hb hF hP hK hD hT hret ls hl
  have hown : s.vm.findClass RX3 = some m.cls := hF.2.2.2.1
  have hF : CallFix p m cd cX3_turn 6 s av wsX3_turn RX3 := hF
  have hts := hF.2.2.2.2
  have hl : lv_has ls 6 [(0, .ref (ad 0)), (1, .int (nI c)), (2, .int (nI v)), (3, .int (nI k)), (4, .int (nI w))] := hl
  obtain ⟨H, eH⟩ : ∃ H9 : Heap, H9 = s.heap := ⟨_, rfl⟩
  obtain ⟨locs, eL⟩ : ∃ L9 : List Loc, L9 = [] := ⟨_, rfl⟩
  have hS : sS (wA ad 46) s.heap H locs := by rw [eH, eL]; exact sS.rf
  rw [← eH] at hP
  suffices hgo : W p l e ({ frames := 2, cells := 0, slots := 0, locals := 47 }) s m av below meth cd H locs 0 0 Q (F0 m 0 ls []) by rw [eH, eL] at hgo; exact hgo
  clear eH eL
  refine lv_aload_n hx hb dX3_turn_0 rfl (lv_at hl 0 rfl) ?_
  refine lv_iload_n hx hb dX3_turn_1 rfl (lv_at hl 1 rfl) ?_
  refine k_Rv (va_runV (As := [.int (nI c)]) (rest := []) hF (c_X3_checkCard l D cI cA ad n x c hc hn) (cwV 1 hts gX3_turn_X3_checkCard rfl rfl rfl (by decide +kernel) ⟨(Nat.le_of_ble_eq_true rfl), (Nat.le_of_ble_eq_true rfl)⟩) (k_pre hP hK hD hT (k := 0) (by decide) cF_0 rfl) rfl rfl hl.1 rfl (lv_room (Nat.le_of_ble_eq_true rfl)) dX3_turn_2 ⟨Nat.zero_le _, Nat.zero_le _⟩) ?_
  refine lv_iload_n hx hb dX3_turn_5 rfl (lv_at hl 2 rfl) ?_
  refine k_Ri (va_runS (As := [.int (nI v)]) (rest := []) hF (c_X3_isChangeable l (nI v)) (va_cwS 1 hts gX3_turn_X3_isChangeable rfl rfl rfl (by decide +kernel) ⟨(Nat.le_of_ble_eq_true rfl), (Nat.le_of_ble_eq_true rfl)⟩) k_preS rfl rfl hl.1 rfl (lv_room (Nat.le_of_ble_eq_true rfl)) dX3_turn_6 ⟨Nat.zero_le _, Nat.zero_le _⟩) ?_
  refine r_topi (show bI (chgB (nI v)) = bI true from congrArg bI (chgB_ok hv)) ?_
  refine r_ifeqB (b := true) (tgt := 31) hx hb dX3_turn_9 (by decide) (fun h => absurd h (by decide)) (fun _ => ?_)
  refine lv_iload_n hx hb dX3_turn_12 rfl (lv_at hl 3 rfl) ?_
  refine k_Ri (va_runS (As := [.int (nI k)]) (rest := []) hF (c_X3_isKind l (nI k)) (va_cwS 1 hts gX3_turn_X3_isKind rfl rfl rfl (by decide +kernel) ⟨(Nat.le_of_ble_eq_true rfl), (Nat.le_of_ble_eq_true rfl)⟩) k_preS rfl rfl hl.1 rfl (lv_room (Nat.le_of_ble_eq_true rfl)) dX3_turn_13 ⟨Nat.zero_le _, Nat.zero_le _⟩) ?_
  refine r_topi (show bI (kindB (nI k)) = bI true from congrArg bI (kindB_ok hk)) ?_
  refine r_ifeqB (b := true) (tgt := 31) hx hb dX3_turn_16 (by decide) (fun h => absurd h (by decide)) (fun _ => ?_)
  refine lv_iload hx hb dX3_turn_19 (lv_at hl 4 rfl) ?_
  refine k_Ri (va_runS (As := [.int (nI w)]) (rest := []) hF (c_X3_isValue l (nI w)) (va_cwS 1 hts gX3_turn_X3_isValue rfl rfl rfl (by decide +kernel) ⟨(Nat.le_of_ble_eq_true rfl), (Nat.le_of_ble_eq_true rfl)⟩) k_preS rfl rfl hl.1 rfl (lv_room (Nat.le_of_ble_eq_true rfl)) dX3_turn_21 ⟨Nat.zero_le _, Nat.zero_le _⟩) ?_
  refine r_topi (show bI (valueB (nI w)) = bI true from congrArg bI (valueB_ok hw)) ?_
  refine r_ifeqB (b := true) (tgt := 31) hx hb dX3_turn_24 (by decide) (fun h => absurd h (by decide)) (fun _ => ?_)
  refine lv_iconst (v := nI 1) hx hb dX3_turn_27 (by decide) ?_
  refine lv_goto (tgt := 32) hx hb dX3_turn_28 (by decide) ?_
  refine k_Rv (va_runS (As := [.int (nI 1)]) (rest := []) hF (c_X3_checkArgument l) (va_cwS 1 hts gX3_turn_X3_checkArgument rfl rfl rfl (by decide +kernel) ⟨(Nat.le_of_ble_eq_true rfl), (Nat.le_of_ble_eq_true rfl)⟩) k_preS rfl rfl hl.1 rfl (lv_room (Nat.le_of_ble_eq_true rfl)) dX3_turn_32 ⟨Nat.zero_le _, Nat.zero_le _⟩) ?_
  refine lv_aload_n hx hb dX3_turn_35 rfl (lv_at hl 0 rfl) ?_
  refine r_get (C := RX3) (T := TX3) (M := 4) (index := 12) (fd := "cards") (fo := "LCardMerger$Cards;") hx hb hts (by decide +kernel) hown hK hP 0 (by decide) cF_0 rfl 0 (by decide) rfl (by decide +kernel) rfl dX3_turn_36 ?_
  refine lv_iload_n hx hb dX3_turn_39 rfl (lv_at hl 1 rfl) ?_
  refine lv_iload_n hx hb dX3_turn_40 rfl (lv_at hl 2 rfl) ?_
  refine lv_iload_n hx hb dX3_turn_41 rfl (lv_at hl 3 rfl) ?_
  refine k_Ri (va_runV (As := [.int (nI c), .int (nI v), .int (nI k)]) (rest := []) hF (c_X0_setOf l D cI cA ad n x c v k (by omega) (by omega) hk) (cwV 3 hts gX3_turn_X0_setOf rfl rfl rfl (by decide +kernel) ⟨(Nat.le_of_ble_eq_true rfl), (Nat.le_of_ble_eq_true rfl)⟩) (k_pre hP hK hD hT (k := 1) (by decide) cF_1 rfl) rfl rfl hl.1 rfl (lv_room (Nat.le_of_ble_eq_true rfl)) dX3_turn_42 ⟨Nat.zero_le _, Nat.zero_le _⟩) ?_
  refine lv_iconst (v := nI 1) hx hb dX3_turn_45 (by decide) ?_
  refine lv_iload hx hb dX3_turn_46 (lv_at hl 4 rfl) ?_
  refine r_bit hx hb dX3_turn_48 ?_
  refine lv_ixor hx hb dX3_turn_49 ?_
  refine lv_istore (lv' := [(5, .int ((x (2 * v + k + 16) c) ^^^ (bit w))), (0, .ref (ad 0)), (1, .int (nI c)), (2, .int (nI v)), (3, .int (nI k)), (4, .int (nI w))]) hx hb dX3_turn_50 hl (by decide) rfl (fun ls hl => ?_)
  refine lv_aload_n hx hb dX3_turn_52 rfl (lv_at hl 1 rfl) ?_
  refine r_get (C := RX3) (T := TX3) (M := 4) (index := 12) (fd := "cards") (fo := "LCardMerger$Cards;") hx hb hts (by decide +kernel) hown hK hP 0 (by decide) cF_0 rfl 0 (by decide) rfl (by decide +kernel) rfl dX3_turn_53 ?_
  refine lv_iload_n hx hb dX3_turn_56 rfl (lv_at hl 2 rfl) ?_
  refine lv_iload_n hx hb dX3_turn_57 rfl (lv_at hl 3 rfl) ?_
  refine lv_iload_n hx hb dX3_turn_58 rfl (lv_at hl 4 rfl) ?_
  refine lv_iload hx hb dX3_turn_59 (lv_at hl 0 rfl) ?_
  refine k_Wv (va_runV (As := [.int (nI c), .int (nI v), .int (nI k), .int ((x (2 * v + k + 16) c) ^^^ (bit w))]) (rest := []) hF (c_X0_putSet l D cI cA ad n x c v k ((x (2 * v + k + 16) c) ^^^ (bit w)) (by omega) (by omega) hk) (cwV 4 hts gX3_turn_X0_putSet rfl rfl rfl (by decide +kernel) ⟨(Nat.le_of_ble_eq_true rfl), (Nat.le_of_ble_eq_true rfl)⟩) (k_pre hP hK hD hT (k := 1) (by decide) cF_1 rfl) rfl rfl hl.1 rfl (lv_room (Nat.le_of_ble_eq_true rfl)) dX3_turn_61 ⟨Nat.zero_le _, Nat.zero_le _⟩) hD hS (fun H locs hP hS => ?_)
  refine lv_iload hx hb dX3_turn_64 (lv_at hl 0 rfl) ?_
  refine lv_iload hx hb dX3_turn_66 (lv_at hl 5 rfl) ?_
  refine k_Ri (va_runS (As := [.int ((x (2 * v + k + 16) c) ^^^ (bit w)), .int (nI w)]) (rest := []) hF (c_X3_has l w ((x (2 * v + k + 16) c) ^^^ (bit w))) (va_cwS 2 hts gX3_turn_X3_has rfl rfl rfl (by decide +kernel) ⟨(Nat.le_of_ble_eq_true rfl), (Nat.le_of_ble_eq_true rfl)⟩) k_preS rfl rfl hl.1 rfl (lv_room (Nat.le_of_ble_eq_true rfl)) dX3_turn_68 ⟨Nat.zero_le _, Nat.zero_le _⟩) ?_
  exact hret _ _ _ _ _ _ hP hS dX3_turn_71 (rfl) (rfl)
set_option maxHeartbeats 4000000 in
set_option maxRecDepth 100000 in
theorem c_X3_rename (l : Launch) (D : va_G) (cI : ClassId) (cA : ClassId) (ad : Nat → Nat) (n : Nat) (x : Nat → Nat → Int32) (c : Nat) (v : Nat) (w : Int32) (hc : c < n) (hn : n ≤ 24) (hv : v < 2) (hnm : nameB w = true) : Met l yX3_rename wsX3_rename ({ frames := 1, cells := 0, slots := 0, locals := 23 }) (va_Pc [.ref (ad 0), .int (nI c), .int (nI v), .int w] (cX D cI cA ad n x)) (qW D ad (cF cI cA ad n (putN x c v w)) 46 (some (.int (x (v + 13) c)))) 0 0 (wA ad 46) := by
  refine c_ofW (cc := cX3_rename) (maxL := 5) (ret := .int) (by decide) rfl rfl (Nat.le_of_ble_eq_true rfl) ?_
  intro p e s m av below meth cd Q hx hb hF hP hK hD hT hret ls hl
  have hown : s.vm.findClass RX3 = some m.cls := hF.2.2.2.1
  have hF : CallFix p m cd cX3_rename 5 s av wsX3_rename RX3 := hF
  have hts := hF.2.2.2.2
  have hl : lv_has ls 5 [(0, .ref (ad 0)), (1, .int (nI c)), (2, .int (nI v)), (3, .int w)] := hl
  obtain ⟨H, eH⟩ : ∃ H9 : Heap, H9 = s.heap := ⟨_, rfl⟩
  obtain ⟨locs, eL⟩ : ∃ L9 : List Loc, L9 = [] := ⟨_, rfl⟩
  have hS : sS (wA ad 46) s.heap H locs := by rw [eH, eL]; exact sS.rf
  rw [← eH] at hP
  suffices hgo : W p l e ({ frames := 1, cells := 0, slots := 0, locals := 23 }) s m av below meth cd H locs 0 0 Q (F0 m 0 ls []) by rw [eH, eL] at hgo; exact hgo
  clear eH eL
  refine lv_aload_n hx hb dX3_rename_0 rfl (lv_at hl 0 rfl) ?_
  refine lv_iload_n hx hb dX3_rename_1 rfl (lv_at hl 1 rfl) ?_
  refine k_Rv (va_runV (As := [.int (nI c)]) (rest := []) hF (c_X3_checkCard l D cI cA ad n x c hc hn) (cwV 1 hts gX3_rename_X3_checkCard rfl rfl rfl (by decide +kernel) ⟨(Nat.le_of_ble_eq_true rfl), (Nat.le_of_ble_eq_true rfl)⟩) (k_pre hP hK hD hT (k := 0) (by decide) cF_0 rfl) rfl rfl hl.1 rfl (lv_room (Nat.le_of_ble_eq_true rfl)) dX3_rename_2 ⟨Nat.zero_le _, Nat.zero_le _⟩) ?_
  refine lv_iload_n hx hb dX3_rename_5 rfl (lv_at hl 2 rfl) ?_
  refine k_Ri (va_runS (As := [.int (nI v)]) (rest := []) hF (c_X3_isChangeable l (nI v)) (va_cwS 1 hts gX3_rename_X3_isChangeable rfl rfl rfl (by decide +kernel) ⟨(Nat.le_of_ble_eq_true rfl), (Nat.le_of_ble_eq_true rfl)⟩) k_preS rfl rfl hl.1 rfl (lv_room (Nat.le_of_ble_eq_true rfl)) dX3_rename_6 ⟨Nat.zero_le _, Nat.zero_le _⟩) ?_
  refine r_topi (show bI (chgB (nI v)) = bI true from congrArg bI (chgB_ok hv)) ?_
  refine r_ifeqB (b := true) (tgt := 23) hx hb dX3_rename_9 (by decide) (fun h => absurd h (by decide)) (fun _ => ?_)
  refine lv_iload_n hx hb dX3_rename_12 rfl (lv_at hl 3 rfl) ?_
  refine k_Ri (va_runS (As := [.int w]) (rest := []) hF (c_X3_isName l w) (va_cwS 1 hts gX3_rename_X3_isName rfl rfl rfl (by decide +kernel) ⟨(Nat.le_of_ble_eq_true rfl), (Nat.le_of_ble_eq_true rfl)⟩) k_preS rfl rfl hl.1 rfl (lv_room (Nat.le_of_ble_eq_true rfl)) dX3_rename_13 ⟨Nat.zero_le _, Nat.zero_le _⟩) ?_
  refine r_topi (show bI (nameB w) = bI true from congrArg bI (hnm)) ?_
  refine r_ifeqB (b := true) (tgt := 23) hx hb dX3_rename_16 (by decide) (fun h => absurd h (by decide)) (fun _ => ?_)
  refine lv_iconst (v := nI 1) hx hb dX3_rename_19 (by decide) ?_
  refine lv_goto (tgt := 24) hx hb dX3_rename_20 (by decide) ?_
  refine k_Rv (va_runS (As := [.int (nI 1)]) (rest := []) hF (c_X3_checkArgument l) (va_cwS 1 hts gX3_rename_X3_checkArgument rfl rfl rfl (by decide +kernel) ⟨(Nat.le_of_ble_eq_true rfl), (Nat.le_of_ble_eq_true rfl)⟩) k_preS rfl rfl hl.1 rfl (lv_room (Nat.le_of_ble_eq_true rfl)) dX3_rename_24 ⟨Nat.zero_le _, Nat.zero_le _⟩) ?_
  refine lv_aload_n hx hb dX3_rename_27 rfl (lv_at hl 0 rfl) ?_
  refine r_get (C := RX3) (T := TX3) (M := 4) (index := 12) (fd := "cards") (fo := "LCardMerger$Cards;") hx hb hts (by decide +kernel) hown hK hP 0 (by decide) cF_0 rfl 0 (by decide) rfl (by decide +kernel) rfl dX3_rename_28 ?_
  refine lv_iload_n hx hb dX3_rename_31 rfl (lv_at hl 1 rfl) ?_
  refine lv_iload_n hx hb dX3_rename_32 rfl (lv_at hl 2 rfl) ?_
  refine k_Ri (va_runV (As := [.int (nI c), .int (nI v)]) (rest := []) hF (c_X0_nameIn l D cI cA ad n x c v (by omega) (by omega)) (cwV 2 hts gX3_rename_X0_nameIn rfl rfl rfl (by decide +kernel) ⟨(Nat.le_of_ble_eq_true rfl), (Nat.le_of_ble_eq_true rfl)⟩) (k_pre hP hK hD hT (k := 1) (by decide) cF_1 rfl) rfl rfl hl.1 rfl (lv_room (Nat.le_of_ble_eq_true rfl)) dX3_rename_33 ⟨Nat.zero_le _, Nat.zero_le _⟩) ?_
  refine lv_istore (lv' := [(4, .int (x (v + 13) c)), (0, .ref (ad 0)), (1, .int (nI c)), (2, .int (nI v)), (3, .int w)]) hx hb dX3_rename_36 hl (by decide) rfl (fun ls hl => ?_)
  refine lv_aload_n hx hb dX3_rename_38 rfl (lv_at hl 1 rfl) ?_
  refine r_get (C := RX3) (T := TX3) (M := 4) (index := 12) (fd := "cards") (fo := "LCardMerger$Cards;") hx hb hts (by decide +kernel) hown hK hP 0 (by decide) cF_0 rfl 0 (by decide) rfl (by decide +kernel) rfl dX3_rename_39 ?_
  refine lv_iload_n hx hb dX3_rename_42 rfl (lv_at hl 2 rfl) ?_
  refine lv_iload_n hx hb dX3_rename_43 rfl (lv_at hl 3 rfl) ?_
  refine lv_iload_n hx hb dX3_rename_44 rfl (lv_at hl 4 rfl) ?_
  refine k_Wv (va_runV (As := [.int (nI c), .int (nI v), .int w]) (rest := []) hF (c_X0_putName l D cI cA ad n x c v w (by omega) (by omega)) (cwV 3 hts gX3_rename_X0_putName rfl rfl rfl (by decide +kernel) ⟨(Nat.le_of_ble_eq_true rfl), (Nat.le_of_ble_eq_true rfl)⟩) (k_pre hP hK hD hT (k := 1) (by decide) cF_1 rfl) rfl rfl hl.1 rfl (lv_room (Nat.le_of_ble_eq_true rfl)) dX3_rename_45 ⟨Nat.zero_le _, Nat.zero_le _⟩) hD hS (fun H locs hP hS => ?_)
  refine lv_iload hx hb dX3_rename_48 (lv_at hl 0 rfl) ?_
  exact hret _ _ _ _ _ _ hP hS dX3_rename_50 (rfl) (rfl)
set_option maxHeartbeats 4000000 in
set_option maxRecDepth 100000 in
theorem c_X3_sync (l : Launch) (D : va_G) (cI : ClassId) (cA : ClassId) (ad : Nat → Nat) (n : Nat) (x : Nat → Nat → Int32) (b : Int32) (hbk : bookB b = true) (hn : n ≤ 24) : Met l yX3_sync wsX3_sync ({ frames := 3, cells := 0, slots := 0, locals := 73 }) (va_Pc [.ref (ad 0), .int b] (cX D cI cA ad n x)) (qW D ad (cF cI cA ad n (syS x b n)) 46 (some (.int (syC x b n)))) 0 0 (wA ad 46) := by
  refine c_ofW (cc := cX3_sync) (maxL := 4) (ret := .int) (by decide) rfl rfl (Nat.le_of_ble_eq_true rfl) ?_
  intro p e s m av below meth cd Q hx hb hF hP hK hD hT hret ls hl
  have hown : s.vm.findClass RX3 = some m.cls := hF.2.2.2.1
  have hF : CallFix p m cd cX3_sync 4 s av wsX3_sync RX3 := hF
  have hts := hF.2.2.2.2
  have hl : lv_has ls 4 [(0, .ref (ad 0)), (1, .int b)] := hl
  obtain ⟨H, eH⟩ : ∃ H9 : Heap, H9 = s.heap := ⟨_, rfl⟩
  obtain ⟨locs, eL⟩ : ∃ L9 : List Loc, L9 = [] := ⟨_, rfl⟩
  have hS : sS (wA ad 46) s.heap H locs := by rw [eH, eL]; exact sS.rf
  rw [← eH] at hP
  suffices hgo : W p l e ({ frames := 3, cells := 0, slots := 0, locals := 73 }) s m av below meth cd H locs 0 0 Q (F0 m 0 ls []) by rw [eH, eL] at hgo; exact hgo
  clear eH eL
  refine lv_aload_n hx hb dX3_sync_0 rfl (lv_at hl 0 rfl) ?_
  refine lv_iload_n hx hb dX3_sync_1 rfl (lv_at hl 1 rfl) ?_
  refine k_Rv (va_runV (As := [.int b]) (rest := []) hF (c_X3_checkBook l D cI cA ad n x b hbk) (cwV 1 hts gX3_sync_X3_checkBook rfl rfl rfl (by decide +kernel) ⟨(Nat.le_of_ble_eq_true rfl), (Nat.le_of_ble_eq_true rfl)⟩) (k_pre hP hK hD hT (k := 0) (by decide) cF_0 rfl) rfl rfl hl.1 rfl (lv_room (Nat.le_of_ble_eq_true rfl)) dX3_sync_2 ⟨Nat.zero_le _, Nat.zero_le _⟩) ?_
  refine lv_iconst (v := nI 0) hx hb dX3_sync_5 (by decide) ?_
  refine lv_istore_n (lv' := [(2, .int (nI 0)), (0, .ref (ad 0)), (1, .int b)]) hx hb dX3_sync_6 rfl hl (by decide) rfl (fun ls hl => ?_)
  refine lv_iconst (v := nI 0) hx hb dX3_sync_7 (by decide) ?_
  refine lv_istore_n (lv' := [(3, .int (nI 0)), (2, .int (nI 0)), (0, .ref (ad 0)), (1, .int b)]) hx hb dX3_sync_8 rfl hl (by decide) rfl (fun ls hl => ?_)
  have hL9 : ∀ i : Nat, i ≤ n → ∀ (H : Heap) (locs : List Loc), va_P D vwCl (wl ad (cF cI cA ad n (syS x b i)) 46) H → sS (wA ad 46) s.heap H locs → ∀ ls : Array Slot, lv_has ls 4 [(0, .ref (ad 0)), (1, .int b), (2, .int (syC x b i)), (3, .int (nI i))] → W p l e ({ frames := 3, cells := 0, slots := 0, locals := 73 }) s m av below meth cd H locs 0 0 Q (F0 m 9 ls []) := by
    refine down (n) ?_ ?_
    · intro H locs hP hS ls hl
      refine lv_iload_n hx hb dX3_sync_9 rfl (lv_at hl 3 rfl) ?_
      refine lv_aload_n hx hb dX3_sync_10 rfl (lv_at hl 0 rfl) ?_
      refine r_get (C := RX3) (T := TX3) (M := 4) (index := 12) (fd := "cards") (fo := "LCardMerger$Cards;") hx hb hts (by decide +kernel) hown hK hP 0 (by decide) cF_0 rfl 0 (by decide) rfl (by decide +kernel) rfl dX3_sync_11 ?_
      refine r_cnt hx hb hts (by decide +kernel) hown hK hP hT.1 dX3_sync_14 ?_
      refine r_cgeN (a := n) (b := n) (tgt := 60) hx hb (by omega) (by omega) dX3_sync_17 (by decide) (fun _ => ?_) (fun h => absurd h (by omega))
      refine lv_iload_n hx hb dX3_sync_60 rfl (lv_at hl 2 rfl) ?_
      exact hret _ _ _ _ _ _ hP hS dX3_sync_61 (rfl) (rfl)
    · intro i hi9 ih9 H locs hP hS ls hl
      refine lv_iload_n hx hb dX3_sync_9 rfl (lv_at hl 3 rfl) ?_
      refine lv_aload_n hx hb dX3_sync_10 rfl (lv_at hl 0 rfl) ?_
      refine r_get (C := RX3) (T := TX3) (M := 4) (index := 12) (fd := "cards") (fo := "LCardMerger$Cards;") hx hb hts (by decide +kernel) hown hK hP 0 (by decide) cF_0 rfl 0 (by decide) rfl (by decide +kernel) rfl dX3_sync_11 ?_
      refine r_cnt hx hb hts (by decide +kernel) hown hK hP hT.1 dX3_sync_14 ?_
      refine r_cgeN (a := i) (b := n) (tgt := 60) hx hb (by omega) (by omega) dX3_sync_17 (by decide) (fun h => absurd h (by omega)) (fun _ => ?_)
      refine lv_aload_n hx hb dX3_sync_20 rfl (lv_at hl 0 rfl) ?_
      refine r_get (C := RX3) (T := TX3) (M := 4) (index := 12) (fd := "cards") (fo := "LCardMerger$Cards;") hx hb hts (by decide +kernel) hown hK hP 0 (by decide) cF_0 rfl 0 (by decide) rfl (by decide +kernel) rfl dX3_sync_21 ?_
      refine lv_iload_n hx hb dX3_sync_24 rfl (lv_at hl 3 rfl) ?_
      refine lv_iload_n hx hb dX3_sync_25 rfl (lv_at hl 1 rfl) ?_
      refine k_Ri (va_runV (As := [.int (nI i), .int b]) (rest := []) hF (c_X0_isIn l D cI cA ad n (syS x b i) i b (by omega)) (cwV 2 hts gX3_sync_X0_isIn rfl rfl rfl (by decide +kernel) ⟨(Nat.le_of_ble_eq_true rfl), (Nat.le_of_ble_eq_true rfl)⟩) (k_pre hP hK hD hT (k := 1) (by decide) cF_1 rfl) rfl rfl hl.1 rfl (lv_room (Nat.le_of_ble_eq_true rfl)) dX3_sync_26 ⟨Nat.zero_le _, Nat.zero_le _⟩) ?_
      refine r_ifeqB (b := decide ((syS x b i) 4 i = b)) (tgt := 54) hx hb dX3_sync_29 (by decide) (fun h29_3 => ?_) (fun h29_3 => ?_)
      · refine r_iincN (k := 3) (a := i) (d := 1) (r := i + 1) (lv' := [(3, .int (nI (i + 1))), (0, .ref (ad 0)), (1, .int b), (2, .int (syC x b i))]) hx hb dX3_sync_54 hl rfl (by omega) (by decide) rfl (fun ls hl => ?_)
        refine lv_goto (tgt := 9) hx hb dX3_sync_57 (by decide) ?_
        exact ih9 _ _ (by rw [show cF cI cA ad n (syS x b (i + 1)) = cF cI cA ad n (syS x b i) from by simp_all [syS]]; exact hP) hS _ (lv_cast (lv_sub (l' := [(0, .ref (ad 0)), (1, .int b), (2, .int (syC x b i)), (3, .int (nI (i + 1)))]) hl [1, 2, 3, 0] rfl) (by rw [show (syC x b (i + 1) : Int32) = syC x b i from by simp_all [syC]]))
      · refine lv_aload_n hx hb dX3_sync_32 rfl (lv_at hl 0 rfl) ?_
        refine r_get (C := RX3) (T := TX3) (M := 4) (index := 12) (fd := "cards") (fo := "LCardMerger$Cards;") hx hb hts (by decide +kernel) hown hK hP 0 (by decide) cF_0 rfl 0 (by decide) rfl (by decide +kernel) rfl dX3_sync_33 ?_
        refine lv_iload_n hx hb dX3_sync_36 rfl (lv_at hl 3 rfl) ?_
        refine k_Ri (va_runV (As := [.int (nI i)]) (rest := []) hF (c_X0_namesClash l D cI cA ad n (syS x b i) i (by omega)) (cwV 1 hts gX3_sync_X0_namesClash rfl rfl rfl (by decide +kernel) ⟨(Nat.le_of_ble_eq_true rfl), (Nat.le_of_ble_eq_true rfl)⟩) (k_pre hP hK hD hT (k := 1) (by decide) cF_1 rfl) rfl rfl hl.1 rfl (lv_room (Nat.le_of_ble_eq_true rfl)) dX3_sync_37 ⟨Nat.zero_le _, Nat.zero_le _⟩) ?_
        refine r_ifeqB (b := clB ((syS x b i) 13 i) ((syS x b i) 14 i) ((syS x b i) 15 i)) (tgt := 46) hx hb dX3_sync_40 (by decide) (fun h40_4 => ?_) (fun h40_4 => ?_)
        · refine lv_aload_n hx hb dX3_sync_46 rfl (lv_at hl 0 rfl) ?_
          refine r_get (C := RX3) (T := TX3) (M := 4) (index := 12) (fd := "cards") (fo := "LCardMerger$Cards;") hx hb hts (by decide +kernel) hown hK hP 0 (by decide) cF_0 rfl 0 (by decide) rfl (by decide +kernel) rfl dX3_sync_47 ?_
          refine lv_iload_n hx hb dX3_sync_50 rfl (lv_at hl 3 rfl) ?_
          refine k_Wv (va_runV (As := [.int (nI i)]) (rest := []) hF (c_X0_mergeVersions l D cI cA ad n (syS x b i) i (by omega)) (cwV 1 hts gX3_sync_X0_mergeVersions rfl rfl rfl (by decide +kernel) ⟨(Nat.le_of_ble_eq_true rfl), (Nat.le_of_ble_eq_true rfl)⟩) (k_pre hP hK hD hT (k := 1) (by decide) cF_1 rfl) rfl rfl hl.1 rfl (lv_room (Nat.le_of_ble_eq_true rfl)) dX3_sync_51 ⟨Nat.zero_le _, Nat.zero_le _⟩) hD hS (fun H locs hP hS => ?_)
          refine r_iincN (k := 3) (a := i) (d := 1) (r := i + 1) (lv' := [(3, .int (nI (i + 1))), (0, .ref (ad 0)), (1, .int b), (2, .int (syC x b i))]) hx hb dX3_sync_54 hl rfl (by omega) (by decide) rfl (fun ls hl => ?_)
          refine lv_goto (tgt := 9) hx hb dX3_sync_57 (by decide) ?_
          exact ih9 _ _ (by rw [show cF cI cA ad n (syS x b (i + 1)) = cF cI cA ad n (mergeV (syS x b i) i) from by simp_all [syS]]; exact hP) hS _ (lv_cast (lv_sub (l' := [(0, .ref (ad 0)), (1, .int b), (2, .int (syC x b i)), (3, .int (nI (i + 1)))]) hl [1, 2, 3, 0] rfl) (by rw [show (syC x b (i + 1) : Int32) = syC x b i from by simp_all [syC]]))
        · refine lv_iinc (k := 2) (v := (syC x b i) + nI 1) (lv' := [(2, .int ((syC x b i) + nI 1)), (0, .ref (ad 0)), (1, .int b), (3, .int (nI i))]) hx hb dX3_sync_43 hl rfl (by rfl) (by decide) rfl (fun ls hl => ?_)
          refine lv_aload_n hx hb dX3_sync_46 rfl (lv_at hl 1 rfl) ?_
          refine r_get (C := RX3) (T := TX3) (M := 4) (index := 12) (fd := "cards") (fo := "LCardMerger$Cards;") hx hb hts (by decide +kernel) hown hK hP 0 (by decide) cF_0 rfl 0 (by decide) rfl (by decide +kernel) rfl dX3_sync_47 ?_
          refine lv_iload_n hx hb dX3_sync_50 rfl (lv_at hl 3 rfl) ?_
          refine k_Wv (va_runV (As := [.int (nI i)]) (rest := []) hF (c_X0_mergeVersions l D cI cA ad n (syS x b i) i (by omega)) (cwV 1 hts gX3_sync_X0_mergeVersions rfl rfl rfl (by decide +kernel) ⟨(Nat.le_of_ble_eq_true rfl), (Nat.le_of_ble_eq_true rfl)⟩) (k_pre hP hK hD hT (k := 1) (by decide) cF_1 rfl) rfl rfl hl.1 rfl (lv_room (Nat.le_of_ble_eq_true rfl)) dX3_sync_51 ⟨Nat.zero_le _, Nat.zero_le _⟩) hD hS (fun H locs hP hS => ?_)
          refine r_iincN (k := 3) (a := i) (d := 1) (r := i + 1) (lv' := [(3, .int (nI (i + 1))), (2, .int ((syC x b i) + nI 1)), (0, .ref (ad 0)), (1, .int b)]) hx hb dX3_sync_54 hl rfl (by omega) (by decide) rfl (fun ls hl => ?_)
          refine lv_goto (tgt := 9) hx hb dX3_sync_57 (by decide) ?_
          exact ih9 _ _ (by rw [show cF cI cA ad n (syS x b (i + 1)) = cF cI cA ad n (mergeV (syS x b i) i) from by simp_all [syS]]; exact hP) hS _ (lv_cast (lv_sub (l' := [(0, .ref (ad 0)), (1, .int b), (2, .int ((syC x b i) + nI 1)), (3, .int (nI (i + 1)))]) hl [2, 3, 1, 0] rfl) (by rw [show (syC x b (i + 1) : Int32) = (syC x b i) + nI 1 from by simp_all [syC]]))
  exact hL9 0 (Nat.zero_le _) _ _ (by rw [show cF cI cA ad n (syS x b 0) = cF cI cA ad n x from rfl]; exact hP) hS _ (lv_cast (lv_sub (l' := [(0, .ref (ad 0)), (1, .int b), (2, .int (nI 0)), (3, .int (nI 0))]) hl [2, 3, 1, 0] rfl) (by rw [show (syC x b 0 : Int32) = nI 0 from rfl]))
set_option maxHeartbeats 4000000 in
set_option maxRecDepth 100000 in
theorem c_X3_cards (l : Launch) (D : va_G) (cI : ClassId) (cA : ClassId) (ad : Nat → Nat) (n : Nat) (x : Nat → Nat → Int32) : Met l yX3_cards wsX3_cards ({ frames := 0, cells := 0, slots := 0, locals := 0 }) (va_Pc [.ref (ad 0)] (cX D cI cA ad n x)) (qR (some (.int (nI n)))) 0 0 nF := by
  refine c_ofR (cc := cX3_cards) (maxL := 1) (ret := .int) (by decide) rfl rfl (Nat.le_of_ble_eq_true rfl) ?_
  intro p e s m av below meth cd Q hx hb hF hP hK hD hT hret ls hl
  have hown : s.vm.findClass RX3 = some m.cls := hF.2.2.2.1
  have hF : CallFix p m cd cX3_cards 1 s av wsX3_cards RX3 := hF
  have hts := hF.2.2.2.2
  have hl : lv_has ls 1 [(0, .ref (ad 0))] := hl
  refine lv_aload_n hx hb dX3_cards_0 rfl (lv_at hl 0 rfl) ?_
  refine r_get (C := RX3) (T := TX3) (M := 4) (index := 12) (fd := "cards") (fo := "LCardMerger$Cards;") hx hb hts (by decide +kernel) hown hK hP 0 (by decide) cF_0 rfl 0 (by decide) rfl (by decide +kernel) rfl dX3_cards_1 ?_
  refine r_cnt hx hb hts (by decide +kernel) hown hK hP hT.1 dX3_cards_4 ?_
  exact hret _ _ _ dX3_cards_7 (rfl)
set_option maxHeartbeats 4000000 in
set_option maxRecDepth 100000 in
theorem c_X3_values (l : Launch) (D : va_G) (cI : ClassId) (cA : ClassId) (ad : Nat → Nat) (n : Nat) (x : Nat → Nat → Int32) (c : Nat) (v : Nat) (k : Nat) (hc : c < n) (hn : n ≤ 24) (hv : v < 3) (hk : k < 2) : Met l yX3_values wsX3_values ({ frames := 2, cells := 0, slots := 0, locals := 40 }) (va_Pc [.ref (ad 0), .int (nI c), .int (nI v), .int (nI k)] (cX D cI cA ad n x)) (qR (some (.int (x (2 * v + k + 16) c)))) 0 0 nF := by
  refine c_ofR (cc := cX3_values) (maxL := 4) (ret := .int) (by decide) rfl rfl (Nat.le_of_ble_eq_true rfl) ?_
  intro p e s m av below meth cd Q hx hb hF hP hK hD hT hret ls hl
  have hown : s.vm.findClass RX3 = some m.cls := hF.2.2.2.1
  have hF : CallFix p m cd cX3_values 4 s av wsX3_values RX3 := hF
  have hts := hF.2.2.2.2
  have hl : lv_has ls 4 [(0, .ref (ad 0)), (1, .int (nI c)), (2, .int (nI v)), (3, .int (nI k))] := hl
  refine lv_aload_n hx hb dX3_values_0 rfl (lv_at hl 0 rfl) ?_
  refine lv_iload_n hx hb dX3_values_1 rfl (lv_at hl 1 rfl) ?_
  refine k_Rv (va_runV (As := [.int (nI c)]) (rest := []) hF (c_X3_checkCard l D cI cA ad n x c hc hn) (cwV 1 hts gX3_values_X3_checkCard rfl rfl rfl (by decide +kernel) ⟨(Nat.le_of_ble_eq_true rfl), (Nat.le_of_ble_eq_true rfl)⟩) (k_pre hP hK hD hT (k := 0) (by decide) cF_0 rfl) rfl rfl hl.1 rfl (lv_room (Nat.le_of_ble_eq_true rfl)) dX3_values_2 ⟨Nat.zero_le _, Nat.zero_le _⟩) ?_
  refine lv_iload_n hx hb dX3_values_5 rfl (lv_at hl 2 rfl) ?_
  refine k_Ri (va_runS (As := [.int (nI v)]) (rest := []) hF (c_X3_isVersion l (nI v)) (va_cwS 1 hts gX3_values_X3_isVersion rfl rfl rfl (by decide +kernel) ⟨(Nat.le_of_ble_eq_true rfl), (Nat.le_of_ble_eq_true rfl)⟩) k_preS rfl rfl hl.1 rfl (lv_room (Nat.le_of_ble_eq_true rfl)) dX3_values_6 ⟨Nat.zero_le _, Nat.zero_le _⟩) ?_
  refine r_topi (show bI (verB (nI v)) = bI true from congrArg bI (verB_ok hv)) ?_
  refine r_ifeqB (b := true) (tgt := 23) hx hb dX3_values_9 (by decide) (fun h => absurd h (by decide)) (fun _ => ?_)
  refine lv_iload_n hx hb dX3_values_12 rfl (lv_at hl 3 rfl) ?_
  refine k_Ri (va_runS (As := [.int (nI k)]) (rest := []) hF (c_X3_isKind l (nI k)) (va_cwS 1 hts gX3_values_X3_isKind rfl rfl rfl (by decide +kernel) ⟨(Nat.le_of_ble_eq_true rfl), (Nat.le_of_ble_eq_true rfl)⟩) k_preS rfl rfl hl.1 rfl (lv_room (Nat.le_of_ble_eq_true rfl)) dX3_values_13 ⟨Nat.zero_le _, Nat.zero_le _⟩) ?_
  refine r_topi (show bI (kindB (nI k)) = bI true from congrArg bI (kindB_ok hk)) ?_
  refine r_ifeqB (b := true) (tgt := 23) hx hb dX3_values_16 (by decide) (fun h => absurd h (by decide)) (fun _ => ?_)
  refine lv_iconst (v := nI 1) hx hb dX3_values_19 (by decide) ?_
  refine lv_goto (tgt := 24) hx hb dX3_values_20 (by decide) ?_
  refine k_Rv (va_runS (As := [.int (nI 1)]) (rest := []) hF (c_X3_checkArgument l) (va_cwS 1 hts gX3_values_X3_checkArgument rfl rfl rfl (by decide +kernel) ⟨(Nat.le_of_ble_eq_true rfl), (Nat.le_of_ble_eq_true rfl)⟩) k_preS rfl rfl hl.1 rfl (lv_room (Nat.le_of_ble_eq_true rfl)) dX3_values_24 ⟨Nat.zero_le _, Nat.zero_le _⟩) ?_
  refine lv_aload_n hx hb dX3_values_27 rfl (lv_at hl 0 rfl) ?_
  refine r_get (C := RX3) (T := TX3) (M := 4) (index := 12) (fd := "cards") (fo := "LCardMerger$Cards;") hx hb hts (by decide +kernel) hown hK hP 0 (by decide) cF_0 rfl 0 (by decide) rfl (by decide +kernel) rfl dX3_values_28 ?_
  refine lv_iload_n hx hb dX3_values_31 rfl (lv_at hl 1 rfl) ?_
  refine lv_iload_n hx hb dX3_values_32 rfl (lv_at hl 2 rfl) ?_
  refine lv_iload_n hx hb dX3_values_33 rfl (lv_at hl 3 rfl) ?_
  refine k_Ri (va_runV (As := [.int (nI c), .int (nI v), .int (nI k)]) (rest := []) hF (c_X0_setOf l D cI cA ad n x c v k (by omega) hv hk) (cwV 3 hts gX3_values_X0_setOf rfl rfl rfl (by decide +kernel) ⟨(Nat.le_of_ble_eq_true rfl), (Nat.le_of_ble_eq_true rfl)⟩) (k_pre hP hK hD hT (k := 1) (by decide) cF_1 rfl) rfl rfl hl.1 rfl (lv_room (Nat.le_of_ble_eq_true rfl)) dX3_values_34 ⟨Nat.zero_le _, Nat.zero_le _⟩) ?_
  exact hret _ _ _ dX3_values_37 (rfl)
set_option maxHeartbeats 4000000 in
set_option maxRecDepth 100000 in
theorem c_X3_nameOf (l : Launch) (D : va_G) (cI : ClassId) (cA : ClassId) (ad : Nat → Nat) (n : Nat) (x : Nat → Nat → Int32) (c : Nat) (v : Nat) (hc : c < n) (hn : n ≤ 24) (hv : v < 3) : Met l yX3_nameOf wsX3_nameOf ({ frames := 2, cells := 0, slots := 0, locals := 40 }) (va_Pc [.ref (ad 0), .int (nI c), .int (nI v)] (cX D cI cA ad n x)) (qR (some (.int (x (v + 13) c)))) 0 0 nF := by
  refine c_ofR (cc := cX3_nameOf) (maxL := 3) (ret := .int) (by decide) rfl rfl (Nat.le_of_ble_eq_true rfl) ?_
  intro p e s m av below meth cd Q hx hb hF hP hK hD hT hret ls hl
  have hown : s.vm.findClass RX3 = some m.cls := hF.2.2.2.1
  have hF : CallFix p m cd cX3_nameOf 3 s av wsX3_nameOf RX3 := hF
  have hts := hF.2.2.2.2
  have hl : lv_has ls 3 [(0, .ref (ad 0)), (1, .int (nI c)), (2, .int (nI v))] := hl
  refine lv_aload_n hx hb dX3_nameOf_0 rfl (lv_at hl 0 rfl) ?_
  refine lv_iload_n hx hb dX3_nameOf_1 rfl (lv_at hl 1 rfl) ?_
  refine k_Rv (va_runV (As := [.int (nI c)]) (rest := []) hF (c_X3_checkCard l D cI cA ad n x c hc hn) (cwV 1 hts gX3_nameOf_X3_checkCard rfl rfl rfl (by decide +kernel) ⟨(Nat.le_of_ble_eq_true rfl), (Nat.le_of_ble_eq_true rfl)⟩) (k_pre hP hK hD hT (k := 0) (by decide) cF_0 rfl) rfl rfl hl.1 rfl (lv_room (Nat.le_of_ble_eq_true rfl)) dX3_nameOf_2 ⟨Nat.zero_le _, Nat.zero_le _⟩) ?_
  refine lv_iload_n hx hb dX3_nameOf_5 rfl (lv_at hl 2 rfl) ?_
  refine k_Ri (va_runS (As := [.int (nI v)]) (rest := []) hF (c_X3_isVersion l (nI v)) (va_cwS 1 hts gX3_nameOf_X3_isVersion rfl rfl rfl (by decide +kernel) ⟨(Nat.le_of_ble_eq_true rfl), (Nat.le_of_ble_eq_true rfl)⟩) k_preS rfl rfl hl.1 rfl (lv_room (Nat.le_of_ble_eq_true rfl)) dX3_nameOf_6 ⟨Nat.zero_le _, Nat.zero_le _⟩) ?_
  refine r_topi (show bI (verB (nI v)) = bI true from congrArg bI (verB_ok hv)) ?_
  refine k_Rv (va_runS (As := [.int (bI true)]) (rest := []) hF (c_X3_checkArgument l) (va_cwS 1 hts gX3_nameOf_X3_checkArgument rfl rfl rfl (by decide +kernel) ⟨(Nat.le_of_ble_eq_true rfl), (Nat.le_of_ble_eq_true rfl)⟩) k_preS rfl rfl hl.1 rfl (lv_room (Nat.le_of_ble_eq_true rfl)) dX3_nameOf_9 ⟨Nat.zero_le _, Nat.zero_le _⟩) ?_
  refine lv_aload_n hx hb dX3_nameOf_12 rfl (lv_at hl 0 rfl) ?_
  refine r_get (C := RX3) (T := TX3) (M := 4) (index := 12) (fd := "cards") (fo := "LCardMerger$Cards;") hx hb hts (by decide +kernel) hown hK hP 0 (by decide) cF_0 rfl 0 (by decide) rfl (by decide +kernel) rfl dX3_nameOf_13 ?_
  refine lv_iload_n hx hb dX3_nameOf_16 rfl (lv_at hl 1 rfl) ?_
  refine lv_iload_n hx hb dX3_nameOf_17 rfl (lv_at hl 2 rfl) ?_
  refine k_Ri (va_runV (As := [.int (nI c), .int (nI v)]) (rest := []) hF (c_X0_nameIn l D cI cA ad n x c v (by omega) hv) (cwV 2 hts gX3_nameOf_X0_nameIn rfl rfl rfl (by decide +kernel) ⟨(Nat.le_of_ble_eq_true rfl), (Nat.le_of_ble_eq_true rfl)⟩) (k_pre hP hK hD hT (k := 1) (by decide) cF_1 rfl) rfl rfl hl.1 rfl (lv_room (Nat.le_of_ble_eq_true rfl)) dX3_nameOf_18 ⟨Nat.zero_le _, Nat.zero_le _⟩) ?_
  exact hret _ _ _ dX3_nameOf_21 (rfl)
set_option maxHeartbeats 4000000 in
set_option maxRecDepth 100000 in
theorem c_X3_merged (l : Launch) (D : va_G) (cI : ClassId) (cA : ClassId) (ad : Nat → Nat) (n : Nat) (x : Nat → Nat → Int32) (c : Nat) (k : Nat) (hc : c < n) (hn : n ≤ 24) (hk : k < 2) : Met l yX3_merged wsX3_merged ({ frames := 2, cells := 0, slots := 0, locals := 48 }) (va_Pc [.ref (ad 0), .int (nI c), .int (nI k)] (cX D cI cA ad n x)) (qR (some (.int (cSt x c k)))) 0 0 nF := by
  refine c_ofR (cc := cX3_merged) (maxL := 3) (ret := .int) (by decide) rfl rfl (Nat.le_of_ble_eq_true rfl) ?_
  intro p e s m av below meth cd Q hx hb hF hP hK hD hT hret ls hl
  have hown : s.vm.findClass RX3 = some m.cls := hF.2.2.2.1
  have hF : CallFix p m cd cX3_merged 3 s av wsX3_merged RX3 := hF
  have hts := hF.2.2.2.2
  have hl : lv_has ls 3 [(0, .ref (ad 0)), (1, .int (nI c)), (2, .int (nI k))] := hl
  refine lv_aload_n hx hb dX3_merged_0 rfl (lv_at hl 0 rfl) ?_
  refine lv_iload_n hx hb dX3_merged_1 rfl (lv_at hl 1 rfl) ?_
  refine k_Rv (va_runV (As := [.int (nI c)]) (rest := []) hF (c_X3_checkCard l D cI cA ad n x c hc hn) (cwV 1 hts gX3_merged_X3_checkCard rfl rfl rfl (by decide +kernel) ⟨(Nat.le_of_ble_eq_true rfl), (Nat.le_of_ble_eq_true rfl)⟩) (k_pre hP hK hD hT (k := 0) (by decide) cF_0 rfl) rfl rfl hl.1 rfl (lv_room (Nat.le_of_ble_eq_true rfl)) dX3_merged_2 ⟨Nat.zero_le _, Nat.zero_le _⟩) ?_
  refine lv_iload_n hx hb dX3_merged_5 rfl (lv_at hl 2 rfl) ?_
  refine k_Ri (va_runS (As := [.int (nI k)]) (rest := []) hF (c_X3_isKind l (nI k)) (va_cwS 1 hts gX3_merged_X3_isKind rfl rfl rfl (by decide +kernel) ⟨(Nat.le_of_ble_eq_true rfl), (Nat.le_of_ble_eq_true rfl)⟩) k_preS rfl rfl hl.1 rfl (lv_room (Nat.le_of_ble_eq_true rfl)) dX3_merged_6 ⟨Nat.zero_le _, Nat.zero_le _⟩) ?_
  refine r_topi (show bI (kindB (nI k)) = bI true from congrArg bI (kindB_ok hk)) ?_
  refine k_Rv (va_runS (As := [.int (bI true)]) (rest := []) hF (c_X3_checkArgument l) (va_cwS 1 hts gX3_merged_X3_checkArgument rfl rfl rfl (by decide +kernel) ⟨(Nat.le_of_ble_eq_true rfl), (Nat.le_of_ble_eq_true rfl)⟩) k_preS rfl rfl hl.1 rfl (lv_room (Nat.le_of_ble_eq_true rfl)) dX3_merged_9 ⟨Nat.zero_le _, Nat.zero_le _⟩) ?_
  refine lv_aload_n hx hb dX3_merged_12 rfl (lv_at hl 0 rfl) ?_
  refine r_get (C := RX3) (T := TX3) (M := 4) (index := 12) (fd := "cards") (fo := "LCardMerger$Cards;") hx hb hts (by decide +kernel) hown hK hP 0 (by decide) cF_0 rfl 0 (by decide) rfl (by decide +kernel) rfl dX3_merged_13 ?_
  refine lv_iload_n hx hb dX3_merged_16 rfl (lv_at hl 1 rfl) ?_
  refine lv_iload_n hx hb dX3_merged_17 rfl (lv_at hl 2 rfl) ?_
  refine k_Ri (va_runV (As := [.int (nI c), .int (nI k)]) (rest := []) hF (c_X0_mergedSet l D cI cA ad n x c k (by omega) hk) (cwV 2 hts gX3_merged_X0_mergedSet rfl rfl rfl (by decide +kernel) ⟨(Nat.le_of_ble_eq_true rfl), (Nat.le_of_ble_eq_true rfl)⟩) (k_pre hP hK hD hT (k := 1) (by decide) cF_1 rfl) rfl rfl hl.1 rfl (lv_room (Nat.le_of_ble_eq_true rfl)) dX3_merged_18 ⟨Nat.zero_le _, Nat.zero_le _⟩) ?_
  exact hret _ _ _ dX3_merged_21 (rfl)
set_option maxHeartbeats 4000000 in
set_option maxRecDepth 100000 in
theorem c_X3_mergedByValues (l : Launch) (D : va_G) (cI : ClassId) (cA : ClassId) (ad : Nat → Nat) (n : Nat) (x : Nat → Nat → Int32) (c : Nat) (k : Nat) (hc : c < n) (hn : n ≤ 24) (hk : k < 2) : Met l yX3_mergedByValues wsX3_mergedByValues ({ frames := 2, cells := 0, slots := 0, locals := 55 }) (va_Pc [.ref (ad 0), .int (nI c), .int (nI k)] (cX D cI cA ad n x)) (qR (some (.int (byV (x (k + 16) c) (x (k + 18) c) (x (k + 20) c) 30)))) 0 0 nF := by
  refine c_ofR (cc := cX3_mergedByValues) (maxL := 3) (ret := .int) (by decide) rfl rfl (Nat.le_of_ble_eq_true rfl) ?_
  intro p e s m av below meth cd Q hx hb hF hP hK hD hT hret ls hl
  have hown : s.vm.findClass RX3 = some m.cls := hF.2.2.2.1
  have hF : CallFix p m cd cX3_mergedByValues 3 s av wsX3_mergedByValues RX3 := hF
  have hts := hF.2.2.2.2
  have hl : lv_has ls 3 [(0, .ref (ad 0)), (1, .int (nI c)), (2, .int (nI k))] := hl
  refine lv_aload_n hx hb dX3_mergedByValues_0 rfl (lv_at hl 0 rfl) ?_
  refine lv_iload_n hx hb dX3_mergedByValues_1 rfl (lv_at hl 1 rfl) ?_
  refine k_Rv (va_runV (As := [.int (nI c)]) (rest := []) hF (c_X3_checkCard l D cI cA ad n x c hc hn) (cwV 1 hts gX3_mergedByValues_X3_checkCard rfl rfl rfl (by decide +kernel) ⟨(Nat.le_of_ble_eq_true rfl), (Nat.le_of_ble_eq_true rfl)⟩) (k_pre hP hK hD hT (k := 0) (by decide) cF_0 rfl) rfl rfl hl.1 rfl (lv_room (Nat.le_of_ble_eq_true rfl)) dX3_mergedByValues_2 ⟨Nat.zero_le _, Nat.zero_le _⟩) ?_
  refine lv_iload_n hx hb dX3_mergedByValues_5 rfl (lv_at hl 2 rfl) ?_
  refine k_Ri (va_runS (As := [.int (nI k)]) (rest := []) hF (c_X3_isKind l (nI k)) (va_cwS 1 hts gX3_mergedByValues_X3_isKind rfl rfl rfl (by decide +kernel) ⟨(Nat.le_of_ble_eq_true rfl), (Nat.le_of_ble_eq_true rfl)⟩) k_preS rfl rfl hl.1 rfl (lv_room (Nat.le_of_ble_eq_true rfl)) dX3_mergedByValues_6 ⟨Nat.zero_le _, Nat.zero_le _⟩) ?_
  refine r_topi (show bI (kindB (nI k)) = bI true from congrArg bI (kindB_ok hk)) ?_
  refine k_Rv (va_runS (As := [.int (bI true)]) (rest := []) hF (c_X3_checkArgument l) (va_cwS 1 hts gX3_mergedByValues_X3_checkArgument rfl rfl rfl (by decide +kernel) ⟨(Nat.le_of_ble_eq_true rfl), (Nat.le_of_ble_eq_true rfl)⟩) k_preS rfl rfl hl.1 rfl (lv_room (Nat.le_of_ble_eq_true rfl)) dX3_mergedByValues_9 ⟨Nat.zero_le _, Nat.zero_le _⟩) ?_
  refine lv_aload_n hx hb dX3_mergedByValues_12 rfl (lv_at hl 0 rfl) ?_
  refine r_get (C := RX3) (T := TX3) (M := 4) (index := 12) (fd := "cards") (fo := "LCardMerger$Cards;") hx hb hts (by decide +kernel) hown hK hP 0 (by decide) cF_0 rfl 0 (by decide) rfl (by decide +kernel) rfl dX3_mergedByValues_13 ?_
  refine lv_iload_n hx hb dX3_mergedByValues_16 rfl (lv_at hl 1 rfl) ?_
  refine lv_iload_n hx hb dX3_mergedByValues_17 rfl (lv_at hl 2 rfl) ?_
  refine k_Ri (va_runV (As := [.int (nI c), .int (nI k)]) (rest := []) hF (c_X0_mergedSetByValues l D cI cA ad n x c k (by omega) hk) (cwV 2 hts gX3_mergedByValues_X0_mergedSetByValues rfl rfl rfl (by decide +kernel) ⟨(Nat.le_of_ble_eq_true rfl), (Nat.le_of_ble_eq_true rfl)⟩) (k_pre hP hK hD hT (k := 1) (by decide) cF_1 rfl) rfl rfl hl.1 rfl (lv_room (Nat.le_of_ble_eq_true rfl)) dX3_mergedByValues_18 ⟨Nat.zero_le _, Nat.zero_le _⟩) ?_
  exact hret _ _ _ dX3_mergedByValues_21 (rfl)
set_option maxHeartbeats 4000000 in
set_option maxRecDepth 100000 in
theorem c_X3_unsynced (l : Launch) (D : va_G) (cI : ClassId) (cA : ClassId) (ad : Nat → Nat) (n : Nat) (x : Nat → Nat → Int32) (b : Int32) (hbk : bookB b = true) (hn : n ≤ 24) : Met l yX3_unsynced wsX3_unsynced ({ frames := 3, cells := 0, slots := 0, locals := 73 }) (va_Pc [.ref (ad 0), .int b] (cX D cI cA ad n x)) (qR (some (.int (usC x b n)))) 0 0 nF := by
  refine c_ofR (cc := cX3_unsynced) (maxL := 4) (ret := .int) (by decide) rfl rfl (Nat.le_of_ble_eq_true rfl) ?_
  intro p e s m av below meth cd Q hx hb hF hP hK hD hT hret ls hl
  have hown : s.vm.findClass RX3 = some m.cls := hF.2.2.2.1
  have hF : CallFix p m cd cX3_unsynced 4 s av wsX3_unsynced RX3 := hF
  have hts := hF.2.2.2.2
  have hl : lv_has ls 4 [(0, .ref (ad 0)), (1, .int b)] := hl
  refine lv_aload_n hx hb dX3_unsynced_0 rfl (lv_at hl 0 rfl) ?_
  refine lv_iload_n hx hb dX3_unsynced_1 rfl (lv_at hl 1 rfl) ?_
  refine k_Rv (va_runV (As := [.int b]) (rest := []) hF (c_X3_checkBook l D cI cA ad n x b hbk) (cwV 1 hts gX3_unsynced_X3_checkBook rfl rfl rfl (by decide +kernel) ⟨(Nat.le_of_ble_eq_true rfl), (Nat.le_of_ble_eq_true rfl)⟩) (k_pre hP hK hD hT (k := 0) (by decide) cF_0 rfl) rfl rfl hl.1 rfl (lv_room (Nat.le_of_ble_eq_true rfl)) dX3_unsynced_2 ⟨Nat.zero_le _, Nat.zero_le _⟩) ?_
  refine lv_iconst (v := nI 0) hx hb dX3_unsynced_5 (by decide) ?_
  refine lv_istore_n (lv' := [(2, .int (nI 0)), (0, .ref (ad 0)), (1, .int b)]) hx hb dX3_unsynced_6 rfl hl (by decide) rfl (fun ls hl => ?_)
  refine lv_iconst (v := nI 0) hx hb dX3_unsynced_7 (by decide) ?_
  refine lv_istore_n (lv' := [(3, .int (nI 0)), (2, .int (nI 0)), (0, .ref (ad 0)), (1, .int b)]) hx hb dX3_unsynced_8 rfl hl (by decide) rfl (fun ls hl => ?_)
  have hL9 : ∀ i : Nat, i ≤ n → ∀ ls : Array Slot, lv_has ls 4 [(0, .ref (ad 0)), (1, .int b), (2, .int (usC x b i)), (3, .int (nI i))] → W p l e ({ frames := 3, cells := 0, slots := 0, locals := 73 }) s m av below meth cd s.heap [] 0 0 Q (F0 m 9 ls []) := by
    refine down (n) ?_ ?_
    · intro ls hl
      refine lv_iload_n hx hb dX3_unsynced_9 rfl (lv_at hl 3 rfl) ?_
      refine lv_aload_n hx hb dX3_unsynced_10 rfl (lv_at hl 0 rfl) ?_
      refine r_get (C := RX3) (T := TX3) (M := 4) (index := 12) (fd := "cards") (fo := "LCardMerger$Cards;") hx hb hts (by decide +kernel) hown hK hP 0 (by decide) cF_0 rfl 0 (by decide) rfl (by decide +kernel) rfl dX3_unsynced_11 ?_
      refine r_cnt hx hb hts (by decide +kernel) hown hK hP hT.1 dX3_unsynced_14 ?_
      refine r_cgeN (a := n) (b := n) (tgt := 52) hx hb (by omega) (by omega) dX3_unsynced_17 (by decide) (fun _ => ?_) (fun h => absurd h (by omega))
      refine lv_iload_n hx hb dX3_unsynced_52 rfl (lv_at hl 2 rfl) ?_
      exact hret _ _ _ dX3_unsynced_53 (rfl)
    · intro i hi9 ih9 ls hl
      refine lv_iload_n hx hb dX3_unsynced_9 rfl (lv_at hl 3 rfl) ?_
      refine lv_aload_n hx hb dX3_unsynced_10 rfl (lv_at hl 0 rfl) ?_
      refine r_get (C := RX3) (T := TX3) (M := 4) (index := 12) (fd := "cards") (fo := "LCardMerger$Cards;") hx hb hts (by decide +kernel) hown hK hP 0 (by decide) cF_0 rfl 0 (by decide) rfl (by decide +kernel) rfl dX3_unsynced_11 ?_
      refine r_cnt hx hb hts (by decide +kernel) hown hK hP hT.1 dX3_unsynced_14 ?_
      refine r_cgeN (a := i) (b := n) (tgt := 52) hx hb (by omega) (by omega) dX3_unsynced_17 (by decide) (fun h => absurd h (by omega)) (fun _ => ?_)
      refine lv_aload_n hx hb dX3_unsynced_20 rfl (lv_at hl 0 rfl) ?_
      refine r_get (C := RX3) (T := TX3) (M := 4) (index := 12) (fd := "cards") (fo := "LCardMerger$Cards;") hx hb hts (by decide +kernel) hown hK hP 0 (by decide) cF_0 rfl 0 (by decide) rfl (by decide +kernel) rfl dX3_unsynced_21 ?_
      refine lv_iload_n hx hb dX3_unsynced_24 rfl (lv_at hl 3 rfl) ?_
      refine lv_iload_n hx hb dX3_unsynced_25 rfl (lv_at hl 1 rfl) ?_
      refine k_Ri (va_runV (As := [.int (nI i), .int b]) (rest := []) hF (c_X0_isIn l D cI cA ad n x i b (by omega)) (cwV 2 hts gX3_unsynced_X0_isIn rfl rfl rfl (by decide +kernel) ⟨(Nat.le_of_ble_eq_true rfl), (Nat.le_of_ble_eq_true rfl)⟩) (k_pre hP hK hD hT (k := 1) (by decide) cF_1 rfl) rfl rfl hl.1 rfl (lv_room (Nat.le_of_ble_eq_true rfl)) dX3_unsynced_26 ⟨Nat.zero_le _, Nat.zero_le _⟩) ?_
      refine r_ifeqB (b := decide (x 4 i = b)) (tgt := 46) hx hb dX3_unsynced_29 (by decide) (fun h29_3 => ?_) (fun h29_3 => ?_)
      · refine r_iincN (k := 3) (a := i) (d := 1) (r := i + 1) (lv' := [(3, .int (nI (i + 1))), (0, .ref (ad 0)), (1, .int b), (2, .int (usC x b i))]) hx hb dX3_unsynced_46 hl rfl (by omega) (by decide) rfl (fun ls hl => ?_)
        refine lv_goto (tgt := 9) hx hb dX3_unsynced_49 (by decide) ?_
        exact ih9 _ (lv_cast (lv_sub (l' := [(0, .ref (ad 0)), (1, .int b), (2, .int (usC x b i)), (3, .int (nI (i + 1)))]) hl [1, 2, 3, 0] rfl) (by rw [show (usC x b (i + 1) : Int32) = usC x b i from by simp_all [usC]]))
      · refine lv_aload_n hx hb dX3_unsynced_32 rfl (lv_at hl 0 rfl) ?_
        refine r_get (C := RX3) (T := TX3) (M := 4) (index := 12) (fd := "cards") (fo := "LCardMerger$Cards;") hx hb hts (by decide +kernel) hown hK hP 0 (by decide) cF_0 rfl 0 (by decide) rfl (by decide +kernel) rfl dX3_unsynced_33 ?_
        refine lv_iload_n hx hb dX3_unsynced_36 rfl (lv_at hl 3 rfl) ?_
        refine k_Ri (va_runV (As := [.int (nI i)]) (rest := []) hF (c_X0_isSynced l D cI cA ad n x i (by omega)) (cwV 1 hts gX3_unsynced_X0_isSynced rfl rfl rfl (by decide +kernel) ⟨(Nat.le_of_ble_eq_true rfl), (Nat.le_of_ble_eq_true rfl)⟩) (k_pre hP hK hD hT (k := 1) (by decide) cF_1 rfl) rfl rfl hl.1 rfl (lv_room (Nat.le_of_ble_eq_true rfl)) dX3_unsynced_37 ⟨Nat.zero_le _, Nat.zero_le _⟩) ?_
        refine r_ifneB (b := synB x i) (tgt := 46) hx hb dX3_unsynced_40 (by decide) (fun h40_4 => ?_) (fun h40_4 => ?_)
        · refine r_iincN (k := 3) (a := i) (d := 1) (r := i + 1) (lv' := [(3, .int (nI (i + 1))), (0, .ref (ad 0)), (1, .int b), (2, .int (usC x b i))]) hx hb dX3_unsynced_46 hl rfl (by omega) (by decide) rfl (fun ls hl => ?_)
          refine lv_goto (tgt := 9) hx hb dX3_unsynced_49 (by decide) ?_
          exact ih9 _ (lv_cast (lv_sub (l' := [(0, .ref (ad 0)), (1, .int b), (2, .int (usC x b i)), (3, .int (nI (i + 1)))]) hl [1, 2, 3, 0] rfl) (by rw [show (usC x b (i + 1) : Int32) = usC x b i from by simp_all [usC]]))
        · refine lv_iinc (k := 2) (v := (usC x b i) + nI 1) (lv' := [(2, .int ((usC x b i) + nI 1)), (0, .ref (ad 0)), (1, .int b), (3, .int (nI i))]) hx hb dX3_unsynced_43 hl rfl (by rfl) (by decide) rfl (fun ls hl => ?_)
          refine r_iincN (k := 3) (a := i) (d := 1) (r := i + 1) (lv' := [(3, .int (nI (i + 1))), (2, .int ((usC x b i) + nI 1)), (0, .ref (ad 0)), (1, .int b)]) hx hb dX3_unsynced_46 hl rfl (by omega) (by decide) rfl (fun ls hl => ?_)
          refine lv_goto (tgt := 9) hx hb dX3_unsynced_49 (by decide) ?_
          exact ih9 _ (lv_cast (lv_sub (l' := [(0, .ref (ad 0)), (1, .int b), (2, .int ((usC x b i) + nI 1)), (3, .int (nI (i + 1)))]) hl [2, 3, 1, 0] rfl) (by rw [show (usC x b (i + 1) : Int32) = (usC x b i) + nI 1 from by simp_all [usC]]))
  exact hL9 0 (Nat.zero_le _) _ (lv_cast (lv_sub (l' := [(0, .ref (ad 0)), (1, .int b), (2, .int (nI 0)), (3, .int (nI 0))]) hl [2, 3, 1, 0] rfl) (by rw [show (usC x b 0 : Int32) = nI 0 from rfl]))
set_option maxHeartbeats 4000000 in
set_option maxRecDepth 100000 in
theorem c_X3_group (l : Launch) (D : va_G) (cI : ClassId) (cA : ClassId) (ad : Nat → Nat) (n : Nat) (x : Nat → Nat → Int32) (c : Nat) (hc : c < n) (hn : n ≤ 24) : Met l yX3_group wsX3_group ({ frames := 1, cells := 0, slots := 0, locals := 21 }) (va_Pc [.ref (ad 0), .int (nI c)] (cX D cI cA ad n x)) (qR (some (.int (x 9 c)))) 0 0 nF := by
  refine c_ofR (cc := cX3_group) (maxL := 2) (ret := .int) (by decide) rfl rfl (Nat.le_of_ble_eq_true rfl) ?_
  intro p e s m av below meth cd Q hx hb hF hP hK hD hT hret ls hl
  have hown : s.vm.findClass RX3 = some m.cls := hF.2.2.2.1
  have hF : CallFix p m cd cX3_group 2 s av wsX3_group RX3 := hF
  have hts := hF.2.2.2.2
  have hl : lv_has ls 2 [(0, .ref (ad 0)), (1, .int (nI c))] := hl
  refine lv_aload_n hx hb dX3_group_0 rfl (lv_at hl 0 rfl) ?_
  refine lv_iload_n hx hb dX3_group_1 rfl (lv_at hl 1 rfl) ?_
  refine k_Rv (va_runV (As := [.int (nI c)]) (rest := []) hF (c_X3_checkCard l D cI cA ad n x c hc hn) (cwV 1 hts gX3_group_X3_checkCard rfl rfl rfl (by decide +kernel) ⟨(Nat.le_of_ble_eq_true rfl), (Nat.le_of_ble_eq_true rfl)⟩) (k_pre hP hK hD hT (k := 0) (by decide) cF_0 rfl) rfl rfl hl.1 rfl (lv_room (Nat.le_of_ble_eq_true rfl)) dX3_group_2 ⟨Nat.zero_le _, Nat.zero_le _⟩) ?_
  refine lv_aload_n hx hb dX3_group_5 rfl (lv_at hl 0 rfl) ?_
  refine r_get (C := RX3) (T := TX3) (M := 4) (index := 19) (fd := "links") (fo := "LCardMerger$Links;") hx hb hts (by decide +kernel) hown hK hP 0 (by decide) cF_0 rfl 1 (by decide) rfl (by decide +kernel) rfl dX3_group_6 ?_
  refine lv_iload_n hx hb dX3_group_9 rfl (lv_at hl 1 rfl) ?_
  refine k_Ri (va_runV (As := [.int (nI c)]) (rest := []) hF (c_X1_groupOf l D cI cA ad n x c (by omega)) (cwV 1 hts gX3_group_X1_groupOf rfl rfl rfl (by decide +kernel) ⟨(Nat.le_of_ble_eq_true rfl), (Nat.le_of_ble_eq_true rfl)⟩) (k_pre hP hK hD hT (k := 2) (by decide) cF_2 rfl) rfl rfl hl.1 rfl (lv_room (Nat.le_of_ble_eq_true rfl)) dX3_group_10 ⟨Nat.zero_le _, Nat.zero_le _⟩) ?_
  exact hret _ _ _ dX3_group_13 (rfl)
set_option maxHeartbeats 4000000 in
set_option maxRecDepth 100000 in
theorem c_X3_groups (l : Launch) (D : va_G) (cI : ClassId) (cA : ClassId) (ad : Nat → Nat) (n : Nat) (x : Nat → Nat → Int32) (hn : n ≤ 24) : Met l yX3_groups wsX3_groups ({ frames := 1, cells := 0, slots := 0, locals := 22 }) (va_Pc [.ref (ad 0)] (cX D cI cA ad n x)) (qR (some (.int (cntF (fun i => lowB (x 9 i) i) n)))) 0 0 nF := by
  refine c_ofR (cc := cX3_groups) (maxL := 3) (ret := .int) (by decide) rfl rfl (Nat.le_of_ble_eq_true rfl) ?_
  intro p e s m av below meth cd Q hx hb hF hP hK hD hT hret ls hl
  have hown : s.vm.findClass RX3 = some m.cls := hF.2.2.2.1
  have hF : CallFix p m cd cX3_groups 3 s av wsX3_groups RX3 := hF
  have hts := hF.2.2.2.2
  have hl : lv_has ls 3 [(0, .ref (ad 0))] := hl
  refine lv_iconst (v := nI 0) hx hb dX3_groups_0 (by decide) ?_
  refine lv_istore_n (lv' := [(1, .int (nI 0)), (0, .ref (ad 0))]) hx hb dX3_groups_1 rfl hl (by decide) rfl (fun ls hl => ?_)
  refine lv_iconst (v := nI 0) hx hb dX3_groups_2 (by decide) ?_
  refine lv_istore_n (lv' := [(2, .int (nI 0)), (1, .int (nI 0)), (0, .ref (ad 0))]) hx hb dX3_groups_3 rfl hl (by decide) rfl (fun ls hl => ?_)
  have hL4 : ∀ i : Nat, i ≤ n → ∀ ls : Array Slot, lv_has ls 3 [(0, .ref (ad 0)), (1, .int (cntF (fun i => lowB (x 9 i) i) i)), (2, .int (nI i))] → W p l e ({ frames := 1, cells := 0, slots := 0, locals := 22 }) s m av below meth cd s.heap [] 0 0 Q (F0 m 4 ls []) := by
    refine down (n) ?_ ?_
    · intro ls hl
      refine lv_iload_n hx hb dX3_groups_4 rfl (lv_at hl 2 rfl) ?_
      refine lv_aload_n hx hb dX3_groups_5 rfl (lv_at hl 0 rfl) ?_
      refine r_get (C := RX3) (T := TX3) (M := 4) (index := 12) (fd := "cards") (fo := "LCardMerger$Cards;") hx hb hts (by decide +kernel) hown hK hP 0 (by decide) cF_0 rfl 0 (by decide) rfl (by decide +kernel) rfl dX3_groups_6 ?_
      refine r_cnt hx hb hts (by decide +kernel) hown hK hP hT.1 dX3_groups_9 ?_
      refine r_cgeN (a := n) (b := n) (tgt := 35) hx hb (by omega) (by omega) dX3_groups_12 (by decide) (fun _ => ?_) (fun h => absurd h (by omega))
      refine lv_iload_n hx hb dX3_groups_35 rfl (lv_at hl 1 rfl) ?_
      exact hret _ _ _ dX3_groups_36 (rfl)
    · intro i hi4 ih4 ls hl
      refine lv_iload_n hx hb dX3_groups_4 rfl (lv_at hl 2 rfl) ?_
      refine lv_aload_n hx hb dX3_groups_5 rfl (lv_at hl 0 rfl) ?_
      refine r_get (C := RX3) (T := TX3) (M := 4) (index := 12) (fd := "cards") (fo := "LCardMerger$Cards;") hx hb hts (by decide +kernel) hown hK hP 0 (by decide) cF_0 rfl 0 (by decide) rfl (by decide +kernel) rfl dX3_groups_6 ?_
      refine r_cnt hx hb hts (by decide +kernel) hown hK hP hT.1 dX3_groups_9 ?_
      refine r_cgeN (a := i) (b := n) (tgt := 35) hx hb (by omega) (by omega) dX3_groups_12 (by decide) (fun h => absurd h (by omega)) (fun _ => ?_)
      refine lv_aload_n hx hb dX3_groups_15 rfl (lv_at hl 0 rfl) ?_
      refine r_get (C := RX3) (T := TX3) (M := 4) (index := 19) (fd := "links") (fo := "LCardMerger$Links;") hx hb hts (by decide +kernel) hown hK hP 0 (by decide) cF_0 rfl 1 (by decide) rfl (by decide +kernel) rfl dX3_groups_16 ?_
      refine lv_iload_n hx hb dX3_groups_19 rfl (lv_at hl 2 rfl) ?_
      refine k_Ri (va_runV (As := [.int (nI i)]) (rest := []) hF (c_X1_isLowestOfGroup l D cI cA ad n x i (by omega)) (cwV 1 hts gX3_groups_X1_isLowestOfGroup rfl rfl rfl (by decide +kernel) ⟨(Nat.le_of_ble_eq_true rfl), (Nat.le_of_ble_eq_true rfl)⟩) (k_pre hP hK hD hT (k := 2) (by decide) cF_2 rfl) rfl rfl hl.1 rfl (lv_room (Nat.le_of_ble_eq_true rfl)) dX3_groups_20 ⟨Nat.zero_le _, Nat.zero_le _⟩) ?_
      refine r_ifeqB (b := lowB (x 9 i) i) (tgt := 29) hx hb dX3_groups_23 (by decide) (fun h23_3 => ?_) (fun h23_3 => ?_)
      · refine r_iincN (k := 2) (a := i) (d := 1) (r := i + 1) (lv' := [(2, .int (nI (i + 1))), (0, .ref (ad 0)), (1, .int (cntF (fun i => lowB (x 9 i) i) i))]) hx hb dX3_groups_29 hl rfl (by omega) (by decide) rfl (fun ls hl => ?_)
        refine lv_goto (tgt := 4) hx hb dX3_groups_32 (by decide) ?_
        exact ih4 _ (lv_cast (lv_sub (l' := [(0, .ref (ad 0)), (1, .int (cntF (fun i => lowB (x 9 i) i) i)), (2, .int (nI (i + 1)))]) hl [1, 2, 0] rfl) (by rw [show (cntF (fun i => lowB (x 9 i) i) (i + 1) : Int32) = cntF (fun i => lowB (x 9 i) i) i from by simp_all [cntF]]))
      · refine lv_iinc (k := 1) (v := (cntF (fun i => lowB (x 9 i) i) i) + nI 1) (lv' := [(1, .int ((cntF (fun i => lowB (x 9 i) i) i) + nI 1)), (0, .ref (ad 0)), (2, .int (nI i))]) hx hb dX3_groups_26 hl rfl (by rfl) (by decide) rfl (fun ls hl => ?_)
        refine r_iincN (k := 2) (a := i) (d := 1) (r := i + 1) (lv' := [(2, .int (nI (i + 1))), (1, .int ((cntF (fun i => lowB (x 9 i) i) i) + nI 1)), (0, .ref (ad 0))]) hx hb dX3_groups_29 hl rfl (by omega) (by decide) rfl (fun ls hl => ?_)
        refine lv_goto (tgt := 4) hx hb dX3_groups_32 (by decide) ?_
        exact ih4 _ (lv_cast (lv_sub (l' := [(0, .ref (ad 0)), (1, .int ((cntF (fun i => lowB (x 9 i) i) i) + nI 1)), (2, .int (nI (i + 1)))]) hl [2, 1, 0] rfl) (by rw [show (cntF (fun i => lowB (x 9 i) i) (i + 1) : Int32) = (cntF (fun i => lowB (x 9 i) i) i) + nI 1 from by simp_all [cntF]]))
  exact hL4 0 (Nat.zero_le _) _ (lv_cast (lv_sub (l' := [(0, .ref (ad 0)), (1, .int (nI 0)), (2, .int (nI 0))]) hl [2, 1, 0] rfl) (by rw [show (cntF (fun i => lowB (x 9 i) i) 0 : Int32) = nI 0 from rfl]))
set_option maxHeartbeats 4000000 in
set_option maxRecDepth 100000 in
theorem c_X3_preferred (l : Launch) (D : va_G) (cI : ClassId) (cA : ClassId) (ad : Nat → Nat) (n : Nat) (x : Nat → Nat → Int32) (c : Nat) (hc : c < n) (hn : n ≤ 24) : Met l yX3_preferred wsX3_preferred ({ frames := 2, cells := 0, slots := 0, locals := 46 }) (va_Pc [.ref (ad 0), .int (nI c)] (cX D cI cA ad n x)) (qR (some (.int (nI (prefF (x 4) (x 9 c) c n))))) 0 0 nF := by
  refine c_ofR (cc := cX3_preferred) (maxL := 2) (ret := .int) (by decide) rfl rfl (Nat.le_of_ble_eq_true rfl) ?_
  intro p e s m av below meth cd Q hx hb hF hP hK hD hT hret ls hl
  have hown : s.vm.findClass RX3 = some m.cls := hF.2.2.2.1
  have hF : CallFix p m cd cX3_preferred 2 s av wsX3_preferred RX3 := hF
  have hts := hF.2.2.2.2
  have hl : lv_has ls 2 [(0, .ref (ad 0)), (1, .int (nI c))] := hl
  refine lv_aload_n hx hb dX3_preferred_0 rfl (lv_at hl 0 rfl) ?_
  refine lv_iload_n hx hb dX3_preferred_1 rfl (lv_at hl 1 rfl) ?_
  refine k_Rv (va_runV (As := [.int (nI c)]) (rest := []) hF (c_X3_checkCard l D cI cA ad n x c hc hn) (cwV 1 hts gX3_preferred_X3_checkCard rfl rfl rfl (by decide +kernel) ⟨(Nat.le_of_ble_eq_true rfl), (Nat.le_of_ble_eq_true rfl)⟩) (k_pre hP hK hD hT (k := 0) (by decide) cF_0 rfl) rfl rfl hl.1 rfl (lv_room (Nat.le_of_ble_eq_true rfl)) dX3_preferred_2 ⟨Nat.zero_le _, Nat.zero_le _⟩) ?_
  refine lv_aload_n hx hb dX3_preferred_5 rfl (lv_at hl 0 rfl) ?_
  refine r_get (C := RX3) (T := TX3) (M := 4) (index := 12) (fd := "cards") (fo := "LCardMerger$Cards;") hx hb hts (by decide +kernel) hown hK hP 0 (by decide) cF_0 rfl 0 (by decide) rfl (by decide +kernel) rfl dX3_preferred_6 ?_
  refine lv_iload_n hx hb dX3_preferred_9 rfl (lv_at hl 1 rfl) ?_
  refine lv_aload_n hx hb dX3_preferred_10 rfl (lv_at hl 0 rfl) ?_
  refine r_get (C := RX3) (T := TX3) (M := 4) (index := 19) (fd := "links") (fo := "LCardMerger$Links;") hx hb hts (by decide +kernel) hown hK hP 0 (by decide) cF_0 rfl 1 (by decide) rfl (by decide +kernel) rfl dX3_preferred_11 ?_
  refine lv_iload_n hx hb dX3_preferred_14 rfl (lv_at hl 1 rfl) ?_
  refine k_Ri (va_runV (As := [.int (nI c)]) (rest := [.int (nI c), .ref (ad 1)]) hF (c_X1_groupOf l D cI cA ad n x c (by omega)) (cwV 1 hts gX3_preferred_X1_groupOf rfl rfl rfl (by decide +kernel) ⟨(Nat.le_of_ble_eq_true rfl), (Nat.le_of_ble_eq_true rfl)⟩) (k_pre hP hK hD hT (k := 2) (by decide) cF_2 rfl) rfl rfl hl.1 rfl (lv_room (Nat.le_of_ble_eq_true rfl)) dX3_preferred_15 ⟨Nat.zero_le _, Nat.zero_le _⟩) ?_
  refine k_Ri (va_runV (As := [.int (nI c), .int (x 9 c)]) (rest := []) hF (c_X0_preferredOf l D cI cA ad n x c (x 9 c) hc hn) (cwV 2 hts gX3_preferred_X0_preferredOf rfl rfl rfl (by decide +kernel) ⟨(Nat.le_of_ble_eq_true rfl), (Nat.le_of_ble_eq_true rfl)⟩) (k_pre hP hK hD hT (k := 1) (by decide) cF_1 rfl) rfl rfl hl.1 rfl (lv_room (Nat.le_of_ble_eq_true rfl)) dX3_preferred_18 ⟨Nat.zero_le _, Nat.zero_le _⟩) ?_
  exact hret _ _ _ dX3_preferred_21 (rfl)
set_option maxHeartbeats 4000000 in
set_option maxRecDepth 100000 in
theorem c_X3_shown (l : Launch) (D : va_G) (cI : ClassId) (cA : ClassId) (ad : Nat → Nat) (n : Nat) (x : Nat → Nat → Int32) (c : Nat) (k : Nat) (hc : c < n) (hn : n ≤ 24) (hk : k < 2) : Met l yX3_shown wsX3_shown ({ frames := 2, cells := 0, slots := 0, locals := 47 }) (va_Pc [.ref (ad 0), .int (nI c), .int (nI k)] (cX D cI cA ad n x)) (qR (some (.int (orF (x 9 c) (x (k + 16)) n)))) 0 0 nF := by
  refine c_ofR (cc := cX3_shown) (maxL := 3) (ret := .int) (by decide) rfl rfl (Nat.le_of_ble_eq_true rfl) ?_
  intro p e s m av below meth cd Q hx hb hF hP hK hD hT hret ls hl
  have hown : s.vm.findClass RX3 = some m.cls := hF.2.2.2.1
  have hF : CallFix p m cd cX3_shown 3 s av wsX3_shown RX3 := hF
  have hts := hF.2.2.2.2
  have hl : lv_has ls 3 [(0, .ref (ad 0)), (1, .int (nI c)), (2, .int (nI k))] := hl
  refine lv_aload_n hx hb dX3_shown_0 rfl (lv_at hl 0 rfl) ?_
  refine lv_iload_n hx hb dX3_shown_1 rfl (lv_at hl 1 rfl) ?_
  refine k_Rv (va_runV (As := [.int (nI c)]) (rest := []) hF (c_X3_checkCard l D cI cA ad n x c hc hn) (cwV 1 hts gX3_shown_X3_checkCard rfl rfl rfl (by decide +kernel) ⟨(Nat.le_of_ble_eq_true rfl), (Nat.le_of_ble_eq_true rfl)⟩) (k_pre hP hK hD hT (k := 0) (by decide) cF_0 rfl) rfl rfl hl.1 rfl (lv_room (Nat.le_of_ble_eq_true rfl)) dX3_shown_2 ⟨Nat.zero_le _, Nat.zero_le _⟩) ?_
  refine lv_iload_n hx hb dX3_shown_5 rfl (lv_at hl 2 rfl) ?_
  refine k_Ri (va_runS (As := [.int (nI k)]) (rest := []) hF (c_X3_isKind l (nI k)) (va_cwS 1 hts gX3_shown_X3_isKind rfl rfl rfl (by decide +kernel) ⟨(Nat.le_of_ble_eq_true rfl), (Nat.le_of_ble_eq_true rfl)⟩) k_preS rfl rfl hl.1 rfl (lv_room (Nat.le_of_ble_eq_true rfl)) dX3_shown_6 ⟨Nat.zero_le _, Nat.zero_le _⟩) ?_
  refine r_topi (show bI (kindB (nI k)) = bI true from congrArg bI (kindB_ok hk)) ?_
  refine k_Rv (va_runS (As := [.int (bI true)]) (rest := []) hF (c_X3_checkArgument l) (va_cwS 1 hts gX3_shown_X3_checkArgument rfl rfl rfl (by decide +kernel) ⟨(Nat.le_of_ble_eq_true rfl), (Nat.le_of_ble_eq_true rfl)⟩) k_preS rfl rfl hl.1 rfl (lv_room (Nat.le_of_ble_eq_true rfl)) dX3_shown_9 ⟨Nat.zero_le _, Nat.zero_le _⟩) ?_
  refine lv_aload_n hx hb dX3_shown_12 rfl (lv_at hl 0 rfl) ?_
  refine r_get (C := RX3) (T := TX3) (M := 4) (index := 12) (fd := "cards") (fo := "LCardMerger$Cards;") hx hb hts (by decide +kernel) hown hK hP 0 (by decide) cF_0 rfl 0 (by decide) rfl (by decide +kernel) rfl dX3_shown_13 ?_
  refine lv_aload_n hx hb dX3_shown_16 rfl (lv_at hl 0 rfl) ?_
  refine r_get (C := RX3) (T := TX3) (M := 4) (index := 19) (fd := "links") (fo := "LCardMerger$Links;") hx hb hts (by decide +kernel) hown hK hP 0 (by decide) cF_0 rfl 1 (by decide) rfl (by decide +kernel) rfl dX3_shown_17 ?_
  refine lv_iload_n hx hb dX3_shown_20 rfl (lv_at hl 1 rfl) ?_
  refine k_Ri (va_runV (As := [.int (nI c)]) (rest := [.ref (ad 1)]) hF (c_X1_groupOf l D cI cA ad n x c (by omega)) (cwV 1 hts gX3_shown_X1_groupOf rfl rfl rfl (by decide +kernel) ⟨(Nat.le_of_ble_eq_true rfl), (Nat.le_of_ble_eq_true rfl)⟩) (k_pre hP hK hD hT (k := 2) (by decide) cF_2 rfl) rfl rfl hl.1 rfl (lv_room (Nat.le_of_ble_eq_true rfl)) dX3_shown_21 ⟨Nat.zero_le _, Nat.zero_le _⟩) ?_
  refine lv_iload_n hx hb dX3_shown_24 rfl (lv_at hl 2 rfl) ?_
  refine k_Ri (va_runV (As := [.int (x 9 c), .int (nI k)]) (rest := []) hF (c_X0_mineOfAll l D cI cA ad n x k (x 9 c) hk hn) (cwV 2 hts gX3_shown_X0_mineOfAll rfl rfl rfl (by decide +kernel) ⟨(Nat.le_of_ble_eq_true rfl), (Nat.le_of_ble_eq_true rfl)⟩) (k_pre hP hK hD hT (k := 1) (by decide) cF_1 rfl) rfl rfl hl.1 rfl (lv_room (Nat.le_of_ble_eq_true rfl)) dX3_shown_25 ⟨Nat.zero_le _, Nat.zero_le _⟩) ?_
  exact hret _ _ _ dX3_shown_28 (rfl)
set_option maxHeartbeats 4000000 in
set_option maxRecDepth 100000 in
theorem c_X3_edit_a (l : Launch) (D : va_G) (cI : ClassId) (cA : ClassId) (ad : Nat → Nat) (n : Nat) (x : Nat → Nat → Int32) (c : Nat) (k : Nat) (w : Nat) (hc : c < n) (hn : n ≤ 24) (hk : k < 2) (hw : w < 30) (hsh : hasB (orF (x 9 c) (x (k + 16)) n) w = true) : Met l yX3_edit wsX3_edit ({ frames := 3, cells := 0, slots := 0, locals := 73 }) (va_Pc [.ref (ad 0), .int (nI c), .int (nI k), .int (nI w)] (cX D cI cA ad n x)) (qW D ad (cF cI cA ad n (tkS x (x 9 c) k w n)) 46 (some (.int (tkC x (x 9 c) k w n)))) 0 0 (wA ad 46) := by
  refine c_ofW (cc := cX3_edit) (maxL := 6) (ret := .int) (by decide) rfl rfl (Nat.le_of_ble_eq_true rfl) ?_
  intro p e s m av below meth cd Q hx hb hF hP hK hD hT hret ls hl
  have hown : s.vm.findClass RX3 = some m.cls := hF.2.2.2.1
  have hF : CallFix p m cd cX3_edit 6 s av wsX3_edit RX3 := hF
  have hts := hF.2.2.2.2
  have hl : lv_has ls 6 [(0, .ref (ad 0)), (1, .int (nI c)), (2, .int (nI k)), (3, .int (nI w))] := hl
  obtain ⟨H, eH⟩ : ∃ H9 : Heap, H9 = s.heap := ⟨_, rfl⟩
  obtain ⟨locs, eL⟩ : ∃ L9 : List Loc, L9 = [] := ⟨_, rfl⟩
  have hS : sS (wA ad 46) s.heap H locs := by rw [eH, eL]; exact sS.rf
  rw [← eH] at hP
  suffices hgo : W p l e ({ frames := 3, cells := 0, slots := 0, locals := 73 }) s m av below meth cd H locs 0 0 Q (F0 m 0 ls []) by rw [eH, eL] at hgo; exact hgo
  clear eH eL
  refine lv_aload_n hx hb dX3_edit_0 rfl (lv_at hl 0 rfl) ?_
  refine lv_iload_n hx hb dX3_edit_1 rfl (lv_at hl 1 rfl) ?_
  refine k_Rv (va_runV (As := [.int (nI c)]) (rest := []) hF (c_X3_checkCard l D cI cA ad n x c hc hn) (cwV 1 hts gX3_edit_X3_checkCard rfl rfl rfl (by decide +kernel) ⟨(Nat.le_of_ble_eq_true rfl), (Nat.le_of_ble_eq_true rfl)⟩) (k_pre hP hK hD hT (k := 0) (by decide) cF_0 rfl) rfl rfl hl.1 rfl (lv_room (Nat.le_of_ble_eq_true rfl)) dX3_edit_2 ⟨Nat.zero_le _, Nat.zero_le _⟩) ?_
  refine lv_iload_n hx hb dX3_edit_5 rfl (lv_at hl 2 rfl) ?_
  refine k_Ri (va_runS (As := [.int (nI k)]) (rest := []) hF (c_X3_isKind l (nI k)) (va_cwS 1 hts gX3_edit_X3_isKind rfl rfl rfl (by decide +kernel) ⟨(Nat.le_of_ble_eq_true rfl), (Nat.le_of_ble_eq_true rfl)⟩) k_preS rfl rfl hl.1 rfl (lv_room (Nat.le_of_ble_eq_true rfl)) dX3_edit_6 ⟨Nat.zero_le _, Nat.zero_le _⟩) ?_
  refine r_topi (show bI (kindB (nI k)) = bI true from congrArg bI (kindB_ok hk)) ?_
  refine r_ifeqB (b := true) (tgt := 23) hx hb dX3_edit_9 (by decide) (fun h => absurd h (by decide)) (fun _ => ?_)
  refine lv_iload_n hx hb dX3_edit_12 rfl (lv_at hl 3 rfl) ?_
  refine k_Ri (va_runS (As := [.int (nI w)]) (rest := []) hF (c_X3_isValue l (nI w)) (va_cwS 1 hts gX3_edit_X3_isValue rfl rfl rfl (by decide +kernel) ⟨(Nat.le_of_ble_eq_true rfl), (Nat.le_of_ble_eq_true rfl)⟩) k_preS rfl rfl hl.1 rfl (lv_room (Nat.le_of_ble_eq_true rfl)) dX3_edit_13 ⟨Nat.zero_le _, Nat.zero_le _⟩) ?_
  refine r_topi (show bI (valueB (nI w)) = bI true from congrArg bI (valueB_ok hw)) ?_
  refine r_ifeqB (b := true) (tgt := 23) hx hb dX3_edit_16 (by decide) (fun h => absurd h (by decide)) (fun _ => ?_)
  refine lv_iconst (v := nI 1) hx hb dX3_edit_19 (by decide) ?_
  refine lv_goto (tgt := 24) hx hb dX3_edit_20 (by decide) ?_
  refine k_Rv (va_runS (As := [.int (nI 1)]) (rest := []) hF (c_X3_checkArgument l) (va_cwS 1 hts gX3_edit_X3_checkArgument rfl rfl rfl (by decide +kernel) ⟨(Nat.le_of_ble_eq_true rfl), (Nat.le_of_ble_eq_true rfl)⟩) k_preS rfl rfl hl.1 rfl (lv_room (Nat.le_of_ble_eq_true rfl)) dX3_edit_24 ⟨Nat.zero_le _, Nat.zero_le _⟩) ?_
  refine lv_aload_n hx hb dX3_edit_27 rfl (lv_at hl 0 rfl) ?_
  refine r_get (C := RX3) (T := TX3) (M := 4) (index := 19) (fd := "links") (fo := "LCardMerger$Links;") hx hb hts (by decide +kernel) hown hK hP 0 (by decide) cF_0 rfl 1 (by decide) rfl (by decide +kernel) rfl dX3_edit_28 ?_
  refine lv_iload_n hx hb dX3_edit_31 rfl (lv_at hl 1 rfl) ?_
  refine k_Ri (va_runV (As := [.int (nI c)]) (rest := []) hF (c_X1_groupOf l D cI cA ad n x c (by omega)) (cwV 1 hts gX3_edit_X1_groupOf rfl rfl rfl (by decide +kernel) ⟨(Nat.le_of_ble_eq_true rfl), (Nat.le_of_ble_eq_true rfl)⟩) (k_pre hP hK hD hT (k := 2) (by decide) cF_2 rfl) rfl rfl hl.1 rfl (lv_room (Nat.le_of_ble_eq_true rfl)) dX3_edit_32 ⟨Nat.zero_le _, Nat.zero_le _⟩) ?_
  refine lv_istore (lv' := [(4, .int (x 9 c)), (0, .ref (ad 0)), (1, .int (nI c)), (2, .int (nI k)), (3, .int (nI w))]) hx hb dX3_edit_35 hl (by decide) rfl (fun ls hl => ?_)
  refine lv_aload_n hx hb dX3_edit_37 rfl (lv_at hl 1 rfl) ?_
  refine r_get (C := RX3) (T := TX3) (M := 4) (index := 12) (fd := "cards") (fo := "LCardMerger$Cards;") hx hb hts (by decide +kernel) hown hK hP 0 (by decide) cF_0 rfl 0 (by decide) rfl (by decide +kernel) rfl dX3_edit_38 ?_
  refine lv_iload hx hb dX3_edit_41 (lv_at hl 0 rfl) ?_
  refine lv_iload_n hx hb dX3_edit_43 rfl (lv_at hl 3 rfl) ?_
  refine k_Ri (va_runV (As := [.int (x 9 c), .int (nI k)]) (rest := []) hF (c_X0_mineOfAll l D cI cA ad n x k (x 9 c) hk hn) (cwV 2 hts gX3_edit_X0_mineOfAll rfl rfl rfl (by decide +kernel) ⟨(Nat.le_of_ble_eq_true rfl), (Nat.le_of_ble_eq_true rfl)⟩) (k_pre hP hK hD hT (k := 1) (by decide) cF_1 rfl) rfl rfl hl.1 rfl (lv_room (Nat.le_of_ble_eq_true rfl)) dX3_edit_44 ⟨Nat.zero_le _, Nat.zero_le _⟩) ?_
  refine lv_iload_n hx hb dX3_edit_47 rfl (lv_at hl 4 rfl) ?_
  refine k_Ri (va_runS (As := [.int (orF (x 9 c) (x (k + 16)) n), .int (nI w)]) (rest := []) hF (c_X3_has l w (orF (x 9 c) (x (k + 16)) n)) (va_cwS 2 hts gX3_edit_X3_has rfl rfl rfl (by decide +kernel) ⟨(Nat.le_of_ble_eq_true rfl), (Nat.le_of_ble_eq_true rfl)⟩) k_preS rfl rfl hl.1 rfl (lv_room (Nat.le_of_ble_eq_true rfl)) dX3_edit_48 ⟨Nat.zero_le _, Nat.zero_le _⟩) ?_
  refine r_topi (show bI (hasB (orF (x 9 c) (x (k + 16)) n) w) = bI true from congrArg bI hsh) ?_
  refine r_ifeqB (b := true) (tgt := 63) hx hb dX3_edit_51 (by decide) (fun h => absurd h (by decide)) (fun _ => ?_)
  refine lv_aload_n hx hb dX3_edit_54 rfl (lv_at hl 1 rfl) ?_
  refine lv_iload hx hb dX3_edit_55 (lv_at hl 0 rfl) ?_
  refine lv_iload_n hx hb dX3_edit_57 rfl (lv_at hl 3 rfl) ?_
  refine lv_iload_n hx hb dX3_edit_58 rfl (lv_at hl 4 rfl) ?_
  refine k_Wi (va_runV (As := [.int (x 9 c), .int (nI k), .int (nI w)]) (rest := []) hF (c_X3_takeOutOfMine l D cI cA ad n x k w (x 9 c) hk hn) (cwV 3 hts gX3_edit_X3_takeOutOfMine rfl rfl rfl (by decide +kernel) ⟨(Nat.le_of_ble_eq_true rfl), (Nat.le_of_ble_eq_true rfl)⟩) (k_pre hP hK hD hT (k := 0) (by decide) cF_0 rfl) rfl rfl hl.1 rfl (lv_room (Nat.le_of_ble_eq_true rfl)) dX3_edit_59 ⟨Nat.zero_le _, Nat.zero_le _⟩) hD hS (fun H locs hP hS => ?_)
  exact hret _ _ _ _ _ _ hP hS dX3_edit_62 (rfl) (rfl)
set_option maxHeartbeats 4000000 in
set_option maxRecDepth 100000 in
theorem c_X3_edit_b (l : Launch) (D : va_G) (cI : ClassId) (cA : ClassId) (ad : Nat → Nat) (n : Nat) (x : Nat → Nat → Int32) (c : Nat) (k : Nat) (w : Nat) (hc : c < n) (hn : n ≤ 24) (hk : k < 2) (hw : w < 30) (hsh : hasB (orF (x 9 c) (x (k + 16)) n) w = false) : Met l yX3_edit wsX3_edit ({ frames := 2, cells := 0, slots := 0, locals := 47 }) (va_Pc [.ref (ad 0), .int (nI c), .int (nI k), .int (nI w)] (cX D cI cA ad n x)) (qW D ad (cF cI cA ad n (putS x (prefF (x 4) (x 9 c) c n) 0 k (x (k + 16) (prefF (x 4) (x 9 c) c n) ||| bit w))) 46 (some (.int (bit (prefF (x 4) (x 9 c) c n))))) 0 0 (wA ad 46) := by
  refine c_ofW (cc := cX3_edit) (maxL := 6) (ret := .int) (by decide) rfl rfl (Nat.le_of_ble_eq_true rfl) ?_
  intro p e s m av below meth cd Q hx hb hF hP hK hD hT hret ls hl
  have hown : s.vm.findClass RX3 = some m.cls := hF.2.2.2.1
  have hF : CallFix p m cd cX3_edit 6 s av wsX3_edit RX3 := hF
  have hts := hF.2.2.2.2
  have hl : lv_has ls 6 [(0, .ref (ad 0)), (1, .int (nI c)), (2, .int (nI k)), (3, .int (nI w))] := hl
  obtain ⟨H, eH⟩ : ∃ H9 : Heap, H9 = s.heap := ⟨_, rfl⟩
  obtain ⟨locs, eL⟩ : ∃ L9 : List Loc, L9 = [] := ⟨_, rfl⟩
  have hS : sS (wA ad 46) s.heap H locs := by rw [eH, eL]; exact sS.rf
  rw [← eH] at hP
  suffices hgo : W p l e ({ frames := 2, cells := 0, slots := 0, locals := 47 }) s m av below meth cd H locs 0 0 Q (F0 m 0 ls []) by rw [eH, eL] at hgo; exact hgo
  clear eH eL
  refine lv_aload_n hx hb dX3_edit_0 rfl (lv_at hl 0 rfl) ?_
  refine lv_iload_n hx hb dX3_edit_1 rfl (lv_at hl 1 rfl) ?_
  refine k_Rv (va_runV (As := [.int (nI c)]) (rest := []) hF (c_X3_checkCard l D cI cA ad n x c hc hn) (cwV 1 hts gX3_edit_X3_checkCard rfl rfl rfl (by decide +kernel) ⟨(Nat.le_of_ble_eq_true rfl), (Nat.le_of_ble_eq_true rfl)⟩) (k_pre hP hK hD hT (k := 0) (by decide) cF_0 rfl) rfl rfl hl.1 rfl (lv_room (Nat.le_of_ble_eq_true rfl)) dX3_edit_2 ⟨Nat.zero_le _, Nat.zero_le _⟩) ?_
  refine lv_iload_n hx hb dX3_edit_5 rfl (lv_at hl 2 rfl) ?_
  refine k_Ri (va_runS (As := [.int (nI k)]) (rest := []) hF (c_X3_isKind l (nI k)) (va_cwS 1 hts gX3_edit_X3_isKind rfl rfl rfl (by decide +kernel) ⟨(Nat.le_of_ble_eq_true rfl), (Nat.le_of_ble_eq_true rfl)⟩) k_preS rfl rfl hl.1 rfl (lv_room (Nat.le_of_ble_eq_true rfl)) dX3_edit_6 ⟨Nat.zero_le _, Nat.zero_le _⟩) ?_
  refine r_topi (show bI (kindB (nI k)) = bI true from congrArg bI (kindB_ok hk)) ?_
  refine r_ifeqB (b := true) (tgt := 23) hx hb dX3_edit_9 (by decide) (fun h => absurd h (by decide)) (fun _ => ?_)
  refine lv_iload_n hx hb dX3_edit_12 rfl (lv_at hl 3 rfl) ?_
  refine k_Ri (va_runS (As := [.int (nI w)]) (rest := []) hF (c_X3_isValue l (nI w)) (va_cwS 1 hts gX3_edit_X3_isValue rfl rfl rfl (by decide +kernel) ⟨(Nat.le_of_ble_eq_true rfl), (Nat.le_of_ble_eq_true rfl)⟩) k_preS rfl rfl hl.1 rfl (lv_room (Nat.le_of_ble_eq_true rfl)) dX3_edit_13 ⟨Nat.zero_le _, Nat.zero_le _⟩) ?_
  refine r_topi (show bI (valueB (nI w)) = bI true from congrArg bI (valueB_ok hw)) ?_
  refine r_ifeqB (b := true) (tgt := 23) hx hb dX3_edit_16 (by decide) (fun h => absurd h (by decide)) (fun _ => ?_)
  refine lv_iconst (v := nI 1) hx hb dX3_edit_19 (by decide) ?_
  refine lv_goto (tgt := 24) hx hb dX3_edit_20 (by decide) ?_
  refine k_Rv (va_runS (As := [.int (nI 1)]) (rest := []) hF (c_X3_checkArgument l) (va_cwS 1 hts gX3_edit_X3_checkArgument rfl rfl rfl (by decide +kernel) ⟨(Nat.le_of_ble_eq_true rfl), (Nat.le_of_ble_eq_true rfl)⟩) k_preS rfl rfl hl.1 rfl (lv_room (Nat.le_of_ble_eq_true rfl)) dX3_edit_24 ⟨Nat.zero_le _, Nat.zero_le _⟩) ?_
  refine lv_aload_n hx hb dX3_edit_27 rfl (lv_at hl 0 rfl) ?_
  refine r_get (C := RX3) (T := TX3) (M := 4) (index := 19) (fd := "links") (fo := "LCardMerger$Links;") hx hb hts (by decide +kernel) hown hK hP 0 (by decide) cF_0 rfl 1 (by decide) rfl (by decide +kernel) rfl dX3_edit_28 ?_
  refine lv_iload_n hx hb dX3_edit_31 rfl (lv_at hl 1 rfl) ?_
  refine k_Ri (va_runV (As := [.int (nI c)]) (rest := []) hF (c_X1_groupOf l D cI cA ad n x c (by omega)) (cwV 1 hts gX3_edit_X1_groupOf rfl rfl rfl (by decide +kernel) ⟨(Nat.le_of_ble_eq_true rfl), (Nat.le_of_ble_eq_true rfl)⟩) (k_pre hP hK hD hT (k := 2) (by decide) cF_2 rfl) rfl rfl hl.1 rfl (lv_room (Nat.le_of_ble_eq_true rfl)) dX3_edit_32 ⟨Nat.zero_le _, Nat.zero_le _⟩) ?_
  refine lv_istore (lv' := [(4, .int (x 9 c)), (0, .ref (ad 0)), (1, .int (nI c)), (2, .int (nI k)), (3, .int (nI w))]) hx hb dX3_edit_35 hl (by decide) rfl (fun ls hl => ?_)
  refine lv_aload_n hx hb dX3_edit_37 rfl (lv_at hl 1 rfl) ?_
  refine r_get (C := RX3) (T := TX3) (M := 4) (index := 12) (fd := "cards") (fo := "LCardMerger$Cards;") hx hb hts (by decide +kernel) hown hK hP 0 (by decide) cF_0 rfl 0 (by decide) rfl (by decide +kernel) rfl dX3_edit_38 ?_
  refine lv_iload hx hb dX3_edit_41 (lv_at hl 0 rfl) ?_
  refine lv_iload_n hx hb dX3_edit_43 rfl (lv_at hl 3 rfl) ?_
  refine k_Ri (va_runV (As := [.int (x 9 c), .int (nI k)]) (rest := []) hF (c_X0_mineOfAll l D cI cA ad n x k (x 9 c) hk hn) (cwV 2 hts gX3_edit_X0_mineOfAll rfl rfl rfl (by decide +kernel) ⟨(Nat.le_of_ble_eq_true rfl), (Nat.le_of_ble_eq_true rfl)⟩) (k_pre hP hK hD hT (k := 1) (by decide) cF_1 rfl) rfl rfl hl.1 rfl (lv_room (Nat.le_of_ble_eq_true rfl)) dX3_edit_44 ⟨Nat.zero_le _, Nat.zero_le _⟩) ?_
  refine lv_iload_n hx hb dX3_edit_47 rfl (lv_at hl 4 rfl) ?_
  refine k_Ri (va_runS (As := [.int (orF (x 9 c) (x (k + 16)) n), .int (nI w)]) (rest := []) hF (c_X3_has l w (orF (x 9 c) (x (k + 16)) n)) (va_cwS 2 hts gX3_edit_X3_has rfl rfl rfl (by decide +kernel) ⟨(Nat.le_of_ble_eq_true rfl), (Nat.le_of_ble_eq_true rfl)⟩) k_preS rfl rfl hl.1 rfl (lv_room (Nat.le_of_ble_eq_true rfl)) dX3_edit_48 ⟨Nat.zero_le _, Nat.zero_le _⟩) ?_
  refine r_topi (show bI (hasB (orF (x 9 c) (x (k + 16)) n) w) = bI false from congrArg bI hsh) ?_
  refine r_ifeqB (b := false) (tgt := 63) hx hb dX3_edit_51 (by decide) (fun _ => ?_) (fun h => absurd h (by decide))
  refine lv_aload_n hx hb dX3_edit_63 rfl (lv_at hl 1 rfl) ?_
  refine r_get (C := RX3) (T := TX3) (M := 4) (index := 12) (fd := "cards") (fo := "LCardMerger$Cards;") hx hb hts (by decide +kernel) hown hK hP 0 (by decide) cF_0 rfl 0 (by decide) rfl (by decide +kernel) rfl dX3_edit_64 ?_
  refine lv_iload_n hx hb dX3_edit_67 rfl (lv_at hl 2 rfl) ?_
  refine lv_iload hx hb dX3_edit_68 (lv_at hl 0 rfl) ?_
  refine k_Ri (va_runV (As := [.int (nI c), .int (x 9 c)]) (rest := []) hF (c_X0_preferredOf l D cI cA ad n x c (x 9 c) hc hn) (cwV 2 hts gX3_edit_X0_preferredOf rfl rfl rfl (by decide +kernel) ⟨(Nat.le_of_ble_eq_true rfl), (Nat.le_of_ble_eq_true rfl)⟩) (k_pre hP hK hD hT (k := 1) (by decide) cF_1 rfl) rfl rfl hl.1 rfl (lv_room (Nat.le_of_ble_eq_true rfl)) dX3_edit_70 ⟨Nat.zero_le _, Nat.zero_le _⟩) ?_
  refine lv_istore (lv' := [(5, .int (nI (prefF (x 4) (x 9 c) c n))), (4, .int (x 9 c)), (0, .ref (ad 0)), (1, .int (nI c)), (2, .int (nI k)), (3, .int (nI w))]) hx hb dX3_edit_73 hl (by decide) rfl (fun ls hl => ?_)
  refine lv_aload_n hx hb dX3_edit_75 rfl (lv_at hl 2 rfl) ?_
  refine r_get (C := RX3) (T := TX3) (M := 4) (index := 12) (fd := "cards") (fo := "LCardMerger$Cards;") hx hb hts (by decide +kernel) hown hK hP 0 (by decide) cF_0 rfl 0 (by decide) rfl (by decide +kernel) rfl dX3_edit_76 ?_
  refine lv_iload hx hb dX3_edit_79 (lv_at hl 0 rfl) ?_
  refine lv_iconst (v := nI 0) hx hb dX3_edit_81 (by decide) ?_
  refine lv_iload_n hx hb dX3_edit_82 rfl (lv_at hl 4 rfl) ?_
  refine lv_aload_n hx hb dX3_edit_83 rfl (lv_at hl 2 rfl) ?_
  refine r_get (C := RX3) (T := TX3) (M := 4) (index := 12) (fd := "cards") (fo := "LCardMerger$Cards;") hx hb hts (by decide +kernel) hown hK hP 0 (by decide) cF_0 rfl 0 (by decide) rfl (by decide +kernel) rfl dX3_edit_84 ?_
  refine lv_iload hx hb dX3_edit_87 (lv_at hl 0 rfl) ?_
  refine lv_iconst (v := nI 0) hx hb dX3_edit_89 (by decide) ?_
  refine lv_iload_n hx hb dX3_edit_90 rfl (lv_at hl 4 rfl) ?_
  refine k_Ri (va_runV (As := [.int (nI (prefF (x 4) (x 9 c) c n)), .int (nI 0), .int (nI k)]) (rest := [.int (nI k), .int (nI 0), .int (nI (prefF (x 4) (x 9 c) c n)), .ref (ad 1)]) hF (c_X0_setOf_0 l D cI cA ad n x (prefF (x 4) (x 9 c) c n) k (Nat.lt_of_lt_of_le (prefF_lt hc n (Nat.le_refl _)) hn) hk) (cwV 3 hts gX3_edit_X0_setOf rfl rfl rfl (by decide +kernel) ⟨(Nat.le_of_ble_eq_true rfl), (Nat.le_of_ble_eq_true rfl)⟩) (k_pre hP hK hD hT (k := 1) (by decide) cF_1 rfl) rfl rfl hl.1 rfl (lv_room (Nat.le_of_ble_eq_true rfl)) dX3_edit_91 ⟨Nat.zero_le _, Nat.zero_le _⟩) ?_
  refine lv_iconst (v := nI 1) hx hb dX3_edit_94 (by decide) ?_
  refine lv_iload_n hx hb dX3_edit_95 rfl (lv_at hl 5 rfl) ?_
  refine r_bit hx hb dX3_edit_96 ?_
  refine lv_ior hx hb dX3_edit_97 ?_
  refine k_Wv (va_runV (As := [.int (nI (prefF (x 4) (x 9 c) c n)), .int (nI 0), .int (nI k), .int ((x (k + 16) (prefF (x 4) (x 9 c) c n)) ||| (bit w))]) (rest := []) hF (c_X0_putSet l D cI cA ad n x (prefF (x 4) (x 9 c) c n) 0 k ((x (k + 16) (prefF (x 4) (x 9 c) c n)) ||| (bit w)) (Nat.lt_of_lt_of_le (prefF_lt hc n (Nat.le_refl _)) hn) (by omega) hk) (cwV 4 hts gX3_edit_X0_putSet rfl rfl rfl (by decide +kernel) ⟨(Nat.le_of_ble_eq_true rfl), (Nat.le_of_ble_eq_true rfl)⟩) (k_pre hP hK hD hT (k := 1) (by decide) cF_1 rfl) rfl rfl hl.1 rfl (lv_room (Nat.le_of_ble_eq_true rfl)) dX3_edit_98 ⟨Nat.zero_le _, Nat.zero_le _⟩) hD hS (fun H locs hP hS => ?_)
  refine lv_iconst (v := nI 1) hx hb dX3_edit_101 (by decide) ?_
  refine lv_iload hx hb dX3_edit_102 (lv_at hl 0 rfl) ?_
  refine r_bit hx hb dX3_edit_104 ?_
  exact hret _ _ _ _ _ _ hP hS dX3_edit_105 (rfl) (rfl)
set_option maxHeartbeats 4000000 in
set_option maxRecDepth 100000 in
theorem c_X3_score (l : Launch) (D : va_G) (cI : ClassId) (cA : ClassId) (ad : Nat → Nat) (n : Nat) (x : Nat → Nat → Int32) (c : Nat) (d : Nat) (hc : c < n) (hd : d < n) (hne : c ≠ d) (hn : n ≤ 24) : Met l yX3_score wsX3_score ({ frames := 3, cells := 0, slots := 0, locals := 70 }) (va_Pc [.ref (ad 0), .int (nI c), .int (nI d)] (cX D cI cA ad n x)) (qR (some (.int (sc x c d)))) 0 0 nF := by
  refine c_ofR (cc := cX3_score) (maxL := 3) (ret := .int) (by decide) rfl rfl (Nat.le_of_ble_eq_true rfl) ?_
  intro p e s m av below meth cd Q hx hb hF hP hK hD hT hret ls hl
  have hown : s.vm.findClass RX3 = some m.cls := hF.2.2.2.1
  have hF : CallFix p m cd cX3_score 3 s av wsX3_score RX3 := hF
  have hts := hF.2.2.2.2
  have hl : lv_has ls 3 [(0, .ref (ad 0)), (1, .int (nI c)), (2, .int (nI d))] := hl
  refine lv_aload_n hx hb dX3_score_0 rfl (lv_at hl 0 rfl) ?_
  refine lv_iload_n hx hb dX3_score_1 rfl (lv_at hl 1 rfl) ?_
  refine lv_iload_n hx hb dX3_score_2 rfl (lv_at hl 2 rfl) ?_
  refine k_Rv (va_runV (As := [.int (nI c), .int (nI d)]) (rest := []) hF (c_X3_checkTwoCards l D cI cA ad n x c d hc hd hne hn) (cwV 2 hts gX3_score_X3_checkTwoCards rfl rfl rfl (by decide +kernel) ⟨(Nat.le_of_ble_eq_true rfl), (Nat.le_of_ble_eq_true rfl)⟩) (k_pre hP hK hD hT (k := 0) (by decide) cF_0 rfl) rfl rfl hl.1 rfl (lv_room (Nat.le_of_ble_eq_true rfl)) dX3_score_3 ⟨Nat.zero_le _, Nat.zero_le _⟩) ?_
  refine lv_aload_n hx hb dX3_score_6 rfl (lv_at hl 0 rfl) ?_
  refine lv_iload_n hx hb dX3_score_7 rfl (lv_at hl 1 rfl) ?_
  refine lv_iload_n hx hb dX3_score_8 rfl (lv_at hl 2 rfl) ?_
  refine k_Ri (va_runV (As := [.int (nI c), .int (nI d)]) (rest := []) hF (c_X3_scoreOf l D cI cA ad n x c d (by omega) (by omega)) (cwV 2 hts gX3_score_X3_scoreOf rfl rfl rfl (by decide +kernel) ⟨(Nat.le_of_ble_eq_true rfl), (Nat.le_of_ble_eq_true rfl)⟩) (k_pre hP hK hD hT (k := 0) (by decide) cF_0 rfl) rfl rfl hl.1 rfl (lv_room (Nat.le_of_ble_eq_true rfl)) dX3_score_9 ⟨Nat.zero_le _, Nat.zero_le _⟩) ?_
  exact hret _ _ _ dX3_score_12 (rfl)
set_option maxHeartbeats 4000000 in
set_option maxRecDepth 100000 in
theorem c_X3_link (l : Launch) (D : va_G) (cI : ClassId) (cA : ClassId) (ad : Nat → Nat) (n : Nat) (x : Nat → Nat → Int32) (c : Nat) (d : Nat) (hc : c < n) (hd : d < n) (hne : c ≠ d) (hn : n ≤ 24) (hlk : hasB (x 8 c) d = false) : Met l yX3_link wsX3_link ({ frames := 3, cells := 0, slots := 0, locals := 65 }) (va_Pc [.ref (ad 0), .int (nI c), .int (nI d)] (cX D cI cA ad n x)) (qW D ad (cF cI cA ad n (conX x c d)) 46 (some (.int (bc (conX x c d 9 c))))) 0 0 (wA ad 46) := by
  refine c_ofW (cc := cX3_link) (maxL := 3) (ret := .int) (by decide) rfl rfl (Nat.le_of_ble_eq_true rfl) ?_
  intro p e s m av below meth cd Q hx hb hF hP hK hD hT hret ls hl
  have hown : s.vm.findClass RX3 = some m.cls := hF.2.2.2.1
  have hF : CallFix p m cd cX3_link 3 s av wsX3_link RX3 := hF
  have hts := hF.2.2.2.2
  have hl : lv_has ls 3 [(0, .ref (ad 0)), (1, .int (nI c)), (2, .int (nI d))] := hl
  obtain ⟨H, eH⟩ : ∃ H9 : Heap, H9 = s.heap := ⟨_, rfl⟩
  obtain ⟨locs, eL⟩ : ∃ L9 : List Loc, L9 = [] := ⟨_, rfl⟩
  have hS : sS (wA ad 46) s.heap H locs := by rw [eH, eL]; exact sS.rf
  rw [← eH] at hP
  suffices hgo : W p l e ({ frames := 3, cells := 0, slots := 0, locals := 65 }) s m av below meth cd H locs 0 0 Q (F0 m 0 ls []) by rw [eH, eL] at hgo; exact hgo
  clear eH eL
  refine lv_aload_n hx hb dX3_link_0 rfl (lv_at hl 0 rfl) ?_
  refine lv_iload_n hx hb dX3_link_1 rfl (lv_at hl 1 rfl) ?_
  refine lv_iload_n hx hb dX3_link_2 rfl (lv_at hl 2 rfl) ?_
  refine k_Rv (va_runV (As := [.int (nI c), .int (nI d)]) (rest := []) hF (c_X3_checkTwoCards l D cI cA ad n x c d hc hd hne hn) (cwV 2 hts gX3_link_X3_checkTwoCards rfl rfl rfl (by decide +kernel) ⟨(Nat.le_of_ble_eq_true rfl), (Nat.le_of_ble_eq_true rfl)⟩) (k_pre hP hK hD hT (k := 0) (by decide) cF_0 rfl) rfl rfl hl.1 rfl (lv_room (Nat.le_of_ble_eq_true rfl)) dX3_link_3 ⟨Nat.zero_le _, Nat.zero_le _⟩) ?_
  refine lv_aload_n hx hb dX3_link_6 rfl (lv_at hl 0 rfl) ?_
  refine r_get (C := RX3) (T := TX3) (M := 4) (index := 19) (fd := "links") (fo := "LCardMerger$Links;") hx hb hts (by decide +kernel) hown hK hP 0 (by decide) cF_0 rfl 1 (by decide) rfl (by decide +kernel) rfl dX3_link_7 ?_
  refine lv_iload_n hx hb dX3_link_10 rfl (lv_at hl 1 rfl) ?_
  refine lv_iload_n hx hb dX3_link_11 rfl (lv_at hl 2 rfl) ?_
  refine k_Ri (va_runV (As := [.int (nI c), .int (nI d)]) (rest := []) hF (c_X1_areLinked l D cI cA ad n x c d (by omega)) (cwV 2 hts gX3_link_X1_areLinked rfl rfl rfl (by decide +kernel) ⟨(Nat.le_of_ble_eq_true rfl), (Nat.le_of_ble_eq_true rfl)⟩) (k_pre hP hK hD hT (k := 2) (by decide) cF_2 rfl) rfl rfl hl.1 rfl (lv_room (Nat.le_of_ble_eq_true rfl)) dX3_link_12 ⟨Nat.zero_le _, Nat.zero_le _⟩) ?_
  refine r_topi (show bI (hasB (x 8 c) d) = bI false from congrArg bI hlk) ?_
  refine r_ifeqB (b := false) (tgt := 28) hx hb dX3_link_15 (by decide) (fun _ => ?_) (fun h => absurd h (by decide))
  refine lv_aload_n hx hb dX3_link_28 rfl (lv_at hl 0 rfl) ?_
  refine r_get (C := RX3) (T := TX3) (M := 4) (index := 19) (fd := "links") (fo := "LCardMerger$Links;") hx hb hts (by decide +kernel) hown hK hP 0 (by decide) cF_0 rfl 1 (by decide) rfl (by decide +kernel) rfl dX3_link_29 ?_
  refine lv_iload_n hx hb dX3_link_32 rfl (lv_at hl 1 rfl) ?_
  refine lv_iload_n hx hb dX3_link_33 rfl (lv_at hl 2 rfl) ?_
  refine k_Wv (va_runV (As := [.int (nI c), .int (nI d)]) (rest := []) hF (c_X1_connect l D cI cA ad n x c d (by omega) (by omega)) (cwV 2 hts gX3_link_X1_connect rfl rfl rfl (by decide +kernel) ⟨(Nat.le_of_ble_eq_true rfl), (Nat.le_of_ble_eq_true rfl)⟩) (k_pre hP hK hD hT (k := 2) (by decide) cF_2 rfl) rfl rfl hl.1 rfl (lv_room (Nat.le_of_ble_eq_true rfl)) dX3_link_34 ⟨Nat.zero_le _, Nat.zero_le _⟩) hD hS (fun H locs hP hS => ?_)
  refine lv_aload_n hx hb dX3_link_37 rfl (lv_at hl 0 rfl) ?_
  refine r_get (C := RX3) (T := TX3) (M := 4) (index := 19) (fd := "links") (fo := "LCardMerger$Links;") hx hb hts (by decide +kernel) hown hK hP 0 (by decide) cF_0 rfl 1 (by decide) rfl (by decide +kernel) rfl dX3_link_38 ?_
  refine lv_iload_n hx hb dX3_link_41 rfl (lv_at hl 1 rfl) ?_
  refine k_Ri (va_runV (As := [.int (nI c)]) (rest := []) hF (c_X1_groupOf l D cI cA ad n (conX x c d) c (by omega)) (cwV 1 hts gX3_link_X1_groupOf rfl rfl rfl (by decide +kernel) ⟨(Nat.le_of_ble_eq_true rfl), (Nat.le_of_ble_eq_true rfl)⟩) (k_pre hP hK hD hT (k := 2) (by decide) cF_2 rfl) rfl rfl hl.1 rfl (lv_room (Nat.le_of_ble_eq_true rfl)) dX3_link_42 ⟨Nat.zero_le _, Nat.zero_le _⟩) ?_
  refine k_Ri (va_runS (As := [.int ((conX x c d) 9 c)]) (rest := []) hF (c_J6_bitCount_0f7a4 l ((conX x c d) 9 c)) (va_cwS 1 hts gX3_link_J6_bitCount_0f7a4 rfl rfl rfl (by decide +kernel) ⟨(Nat.le_of_ble_eq_true rfl), (Nat.le_of_ble_eq_true rfl)⟩) k_preS rfl rfl hl.1 rfl (lv_room (Nat.le_of_ble_eq_true rfl)) dX3_link_45 ⟨Nat.zero_le _, Nat.zero_le _⟩) ?_
  exact hret _ _ _ _ _ _ hP hS dX3_link_48 (rfl) (rfl)
set_option maxHeartbeats 4000000 in
set_option maxRecDepth 100000 in
theorem c_X3_cut (l : Launch) (D : va_G) (cI : ClassId) (cA : ClassId) (ad : Nat → Nat) (n : Nat) (x : Nat → Nat → Int32) (c : Nat) (d : Nat) (hc : c < n) (hd : d < n) (hn : n ≤ 24) (hlk : hasB (x 8 c) d = true) : Met l yX3_cut wsX3_cut ({ frames := 4, cells := 0, slots := 0, locals := 89 }) (va_Pc [.ref (ad 0), .int (nI c), .int (nI d)] (cX D cI cA ad n x)) (qW D ad (cF cI cA ad n (disX x c d)) 46 (some (.int (bI (hasB (disX x c d 9 c) d))))) 0 0 (wA ad 46) := by
  refine c_ofW (cc := cX3_cut) (maxL := 3) (ret := .boolean) (by decide) rfl (nar_bI _) (Nat.le_of_ble_eq_true rfl) ?_
  intro p e s m av below meth cd Q hx hb hF hP hK hD hT hret ls hl
  have hown : s.vm.findClass RX3 = some m.cls := hF.2.2.2.1
  have hF : CallFix p m cd cX3_cut 3 s av wsX3_cut RX3 := hF
  have hts := hF.2.2.2.2
  have hl : lv_has ls 3 [(0, .ref (ad 0)), (1, .int (nI c)), (2, .int (nI d))] := hl
  obtain ⟨H, eH⟩ : ∃ H9 : Heap, H9 = s.heap := ⟨_, rfl⟩
  obtain ⟨locs, eL⟩ : ∃ L9 : List Loc, L9 = [] := ⟨_, rfl⟩
  have hS : sS (wA ad 46) s.heap H locs := by rw [eH, eL]; exact sS.rf
  rw [← eH] at hP
  suffices hgo : W p l e ({ frames := 4, cells := 0, slots := 0, locals := 89 }) s m av below meth cd H locs 0 0 Q (F0 m 0 ls []) by rw [eH, eL] at hgo; exact hgo
  clear eH eL
  refine lv_aload_n hx hb dX3_cut_0 rfl (lv_at hl 0 rfl) ?_
  refine lv_iload_n hx hb dX3_cut_1 rfl (lv_at hl 1 rfl) ?_
  refine k_Rv (va_runV (As := [.int (nI c)]) (rest := []) hF (c_X3_checkCard l D cI cA ad n x c hc hn) (cwV 1 hts gX3_cut_X3_checkCard rfl rfl rfl (by decide +kernel) ⟨(Nat.le_of_ble_eq_true rfl), (Nat.le_of_ble_eq_true rfl)⟩) (k_pre hP hK hD hT (k := 0) (by decide) cF_0 rfl) rfl rfl hl.1 rfl (lv_room (Nat.le_of_ble_eq_true rfl)) dX3_cut_2 ⟨Nat.zero_le _, Nat.zero_le _⟩) ?_
  refine lv_aload_n hx hb dX3_cut_5 rfl (lv_at hl 0 rfl) ?_
  refine lv_iload_n hx hb dX3_cut_6 rfl (lv_at hl 2 rfl) ?_
  refine k_Rv (va_runV (As := [.int (nI d)]) (rest := []) hF (c_X3_checkCard l D cI cA ad n x d hd hn) (cwV 1 hts gX3_cut_X3_checkCard rfl rfl rfl (by decide +kernel) ⟨(Nat.le_of_ble_eq_true rfl), (Nat.le_of_ble_eq_true rfl)⟩) (k_pre hP hK hD hT (k := 0) (by decide) cF_0 rfl) rfl rfl hl.1 rfl (lv_room (Nat.le_of_ble_eq_true rfl)) dX3_cut_7 ⟨Nat.zero_le _, Nat.zero_le _⟩) ?_
  refine lv_aload_n hx hb dX3_cut_10 rfl (lv_at hl 0 rfl) ?_
  refine r_get (C := RX3) (T := TX3) (M := 4) (index := 19) (fd := "links") (fo := "LCardMerger$Links;") hx hb hts (by decide +kernel) hown hK hP 0 (by decide) cF_0 rfl 1 (by decide) rfl (by decide +kernel) rfl dX3_cut_11 ?_
  refine lv_iload_n hx hb dX3_cut_14 rfl (lv_at hl 1 rfl) ?_
  refine lv_iload_n hx hb dX3_cut_15 rfl (lv_at hl 2 rfl) ?_
  refine k_Ri (va_runV (As := [.int (nI c), .int (nI d)]) (rest := []) hF (c_X1_areLinked l D cI cA ad n x c d (by omega)) (cwV 2 hts gX3_cut_X1_areLinked rfl rfl rfl (by decide +kernel) ⟨(Nat.le_of_ble_eq_true rfl), (Nat.le_of_ble_eq_true rfl)⟩) (k_pre hP hK hD hT (k := 2) (by decide) cF_2 rfl) rfl rfl hl.1 rfl (lv_room (Nat.le_of_ble_eq_true rfl)) dX3_cut_16 ⟨Nat.zero_le _, Nat.zero_le _⟩) ?_
  refine r_topi (show bI (hasB (x 8 c) d) = bI true from congrArg bI hlk) ?_
  refine r_ifneB (b := true) (tgt := 32) hx hb dX3_cut_19 (by decide) (fun _ => ?_) (fun h => absurd h (by decide))
  refine lv_aload_n hx hb dX3_cut_32 rfl (lv_at hl 0 rfl) ?_
  refine r_get (C := RX3) (T := TX3) (M := 4) (index := 19) (fd := "links") (fo := "LCardMerger$Links;") hx hb hts (by decide +kernel) hown hK hP 0 (by decide) cF_0 rfl 1 (by decide) rfl (by decide +kernel) rfl dX3_cut_33 ?_
  refine lv_iload_n hx hb dX3_cut_36 rfl (lv_at hl 1 rfl) ?_
  refine lv_iload_n hx hb dX3_cut_37 rfl (lv_at hl 2 rfl) ?_
  refine k_Wv (va_runV (As := [.int (nI c), .int (nI d)]) (rest := []) hF (c_X1_disconnect l D cI cA ad n x c d (by omega) (by omega)) (cwV 2 hts gX3_cut_X1_disconnect rfl rfl rfl (by decide +kernel) ⟨(Nat.le_of_ble_eq_true rfl), (Nat.le_of_ble_eq_true rfl)⟩) (k_pre hP hK hD hT (k := 2) (by decide) cF_2 rfl) rfl rfl hl.1 rfl (lv_room (Nat.le_of_ble_eq_true rfl)) dX3_cut_38 ⟨Nat.zero_le _, Nat.zero_le _⟩) hD hS (fun H locs hP hS => ?_)
  refine lv_aload_n hx hb dX3_cut_41 rfl (lv_at hl 0 rfl) ?_
  refine r_get (C := RX3) (T := TX3) (M := 4) (index := 19) (fd := "links") (fo := "LCardMerger$Links;") hx hb hts (by decide +kernel) hown hK hP 0 (by decide) cF_0 rfl 1 (by decide) rfl (by decide +kernel) rfl dX3_cut_42 ?_
  refine lv_iload_n hx hb dX3_cut_45 rfl (lv_at hl 1 rfl) ?_
  refine lv_iload_n hx hb dX3_cut_46 rfl (lv_at hl 2 rfl) ?_
  refine k_Ri (va_runV (As := [.int (nI c), .int (nI d)]) (rest := []) hF (c_X1_areTogether l D cI cA ad n (disX x c d) c d (by omega)) (cwV 2 hts gX3_cut_X1_areTogether rfl rfl rfl (by decide +kernel) ⟨(Nat.le_of_ble_eq_true rfl), (Nat.le_of_ble_eq_true rfl)⟩) (k_pre hP hK hD hT (k := 2) (by decide) cF_2 rfl) rfl rfl hl.1 rfl (lv_room (Nat.le_of_ble_eq_true rfl)) dX3_cut_47 ⟨Nat.zero_le _, Nat.zero_le _⟩) ?_
  exact hret _ _ _ _ _ _ hP hS dX3_cut_50 (rfl) (rfl)
set_option maxHeartbeats 4000000 in
set_option maxRecDepth 100000 in
theorem c_X3_pairs (l : Launch) (D : va_G) (cI : ClassId) (cA : ClassId) (ad : Nat → Nat) (n : Nat) (x : Nat → Nat → Int32) (hn : n ≤ 24) : Met l yX3_pairs wsX3_pairs ({ frames := 5, cells := 0, slots := 0, locals := 116 }) (va_Pc [.ref (ad 0)] (cX D cI cA ad n x)) (qW D ad (cF cI cA ad n (tlS x n)) 46 (some (.int (tlC x n)))) 0 0 (wA ad 46) := by
  refine c_ofW (cc := cX3_pairs) (maxL := 1) (ret := .int) (by decide) rfl rfl (Nat.le_of_ble_eq_true rfl) ?_
  intro p e s m av below meth cd Q hx hb hF hP hK hD hT hret ls hl
  have hown : s.vm.findClass RX3 = some m.cls := hF.2.2.2.1
  have hF : CallFix p m cd cX3_pairs 1 s av wsX3_pairs RX3 := hF
  have hts := hF.2.2.2.2
  have hl : lv_has ls 1 [(0, .ref (ad 0))] := hl
  obtain ⟨H, eH⟩ : ∃ H9 : Heap, H9 = s.heap := ⟨_, rfl⟩
  obtain ⟨locs, eL⟩ : ∃ L9 : List Loc, L9 = [] := ⟨_, rfl⟩
  have hS : sS (wA ad 46) s.heap H locs := by rw [eH, eL]; exact sS.rf
  rw [← eH] at hP
  suffices hgo : W p l e ({ frames := 5, cells := 0, slots := 0, locals := 116 }) s m av below meth cd H locs 0 0 Q (F0 m 0 ls []) by rw [eH, eL] at hgo; exact hgo
  clear eH eL
  refine lv_aload_n hx hb dX3_pairs_0 rfl (lv_at hl 0 rfl) ?_
  refine k_Wi (va_runV (As := []) (rest := []) hF (c_X3_tallyPairs l D cI cA ad n x hn) (cwV 0 hts gX3_pairs_X3_tallyPairs rfl rfl rfl (by decide +kernel) ⟨(Nat.le_of_ble_eq_true rfl), (Nat.le_of_ble_eq_true rfl)⟩) (k_pre hP hK hD hT (k := 0) (by decide) cF_0 rfl) rfl rfl hl.1 rfl (lv_room (Nat.le_of_ble_eq_true rfl)) dX3_pairs_1 ⟨Nat.zero_le _, Nat.zero_le _⟩) hD hS (fun H locs hP hS => ?_)
  exact hret _ _ _ _ _ _ hP hS dX3_pairs_4 (rfl) (rfl)
set_option maxHeartbeats 4000000 in
set_option maxRecDepth 100000 in
theorem c_X3_pairAt (l : Launch) (D : va_G) (cI : ClassId) (cA : ClassId) (ad : Nat → Nat) (n : Nat) (x : Nat → Nat → Int32) (q : Nat) (hn : n ≤ 24) (hq : q < 2 ^ 31) (hqt : nI q < tlC x n) : Met l yX3_pairAt wsX3_pairAt ({ frames := 5, cells := 0, slots := 0, locals := 117 }) (va_Pc [.ref (ad 0), .int (nI q)] (cX D cI cA ad n x)) (qW D ad (cF cI cA ad n (tlS x n)) 46 (some (.int (pW (tlS x n) n 152 (nI q))))) 0 0 (wA ad 46) := by
  refine c_ofW (cc := cX3_pairAt) (maxL := 5) (ret := .int) (by decide) rfl rfl (Nat.le_of_ble_eq_true rfl) ?_
  intro p e s m av below meth cd Q hx hb hF hP hK hD hT hret ls hl
  have hown : s.vm.findClass RX3 = some m.cls := hF.2.2.2.1
  have hF : CallFix p m cd cX3_pairAt 5 s av wsX3_pairAt RX3 := hF
  have hts := hF.2.2.2.2
  have hl : lv_has ls 5 [(0, .ref (ad 0)), (1, .int (nI q))] := hl
  obtain ⟨H, eH⟩ : ∃ H9 : Heap, H9 = s.heap := ⟨_, rfl⟩
  obtain ⟨locs, eL⟩ : ∃ L9 : List Loc, L9 = [] := ⟨_, rfl⟩
  have hS : sS (wA ad 46) s.heap H locs := by rw [eH, eL]; exact sS.rf
  rw [← eH] at hP
  suffices hgo : W p l e ({ frames := 5, cells := 0, slots := 0, locals := 117 }) s m av below meth cd H locs 0 0 Q (F0 m 0 ls []) by rw [eH, eL] at hgo; exact hgo
  clear eH eL
  refine lv_aload_n hx hb dX3_pairAt_0 rfl (lv_at hl 0 rfl) ?_
  refine k_Wi (va_runV (As := []) (rest := []) hF (c_X3_tallyPairs l D cI cA ad n x hn) (cwV 0 hts gX3_pairAt_X3_tallyPairs rfl rfl rfl (by decide +kernel) ⟨(Nat.le_of_ble_eq_true rfl), (Nat.le_of_ble_eq_true rfl)⟩) (k_pre hP hK hD hT (k := 0) (by decide) cF_0 rfl) rfl rfl hl.1 rfl (lv_room (Nat.le_of_ble_eq_true rfl)) dX3_pairAt_1 ⟨Nat.zero_le _, Nat.zero_le _⟩) hD hS (fun H locs hP hS => ?_)
  refine lv_istore_n (lv' := [(2, .int (tlC x n)), (0, .ref (ad 0)), (1, .int (nI q))]) hx hb dX3_pairAt_4 rfl hl (by decide) rfl (fun ls hl => ?_)
  refine lv_iload_n hx hb dX3_pairAt_5 rfl (lv_at hl 2 rfl) ?_
  refine r_ifltN (a := q) (tgt := 14) hx hb (by omega) dX3_pairAt_6 (by decide) ?_
  refine lv_iload_n hx hb dX3_pairAt_9 rfl (lv_at hl 2 rfl) ?_
  refine lv_iload_n hx hb dX3_pairAt_10 rfl (lv_at hl 0 rfl) ?_
  refine lv_icmp_lt (tgt := 24) hx hb dX3_pairAt_11 (by decide) (fun _ => ?_) (fun h => absurd hqt h)
  refine lv_iload_n hx hb dX3_pairAt_24 rfl (lv_at hl 2 rfl) ?_
  refine lv_istore_n (lv' := [(3, .int (nI q)), (2, .int (tlC x n)), (0, .ref (ad 0)), (1, .int (nI q))]) hx hb dX3_pairAt_25 rfl hl (by decide) rfl (fun ls hl => ?_)
  refine lv_sipush (v := nI 152) hx hb dX3_pairAt_26 (by decide) ?_
  refine lv_istore (lv' := [(4, .int (nI 152)), (3, .int (nI q)), (2, .int (tlC x n)), (0, .ref (ad 0)), (1, .int (nI q))]) hx hb dX3_pairAt_29 hl (by decide) rfl (fun ls hl => ?_)
  have hL31 : ∀ sq : Nat, sq ≤ 152 → ∀ r : Int32, (pW (tlS x n) n sq r = pW (tlS x n) n 152 (nI q)) → ∀ (H : Heap) (locs : List Loc), va_P D vwCl (wl ad (cF cI cA ad n (tlS x n)) 46) H → sS (wA ad 46) s.heap H locs → ∀ ls : Array Slot, lv_has ls 5 [(0, .ref (ad 0)), (3, .int r), (4, .int (nI sq))] → W p l e ({ frames := 5, cells := 0, slots := 0, locals := 117 }) s m av below meth cd H locs 0 0 Q (F0 m 31 ls []) := by
    intro sq
    induction sq with
    | zero =>
      intro hb31 r hr H locs hP hS ls hl
      refine lv_iload hx hb dX3_pairAt_31 (lv_at hl 2 rfl) ?_
      refine r_ifleN (a := 0) (tgt := 63) hx hb (by omega) dX3_pairAt_33 (by decide) (fun _ => ?_) (fun h => absurd h (by omega))
      refine lv_aload_n hx hb dX3_pairAt_63 rfl (lv_at hl 0 rfl) ?_
      refine lv_iload hx hb dX3_pairAt_64 (lv_at hl 2 rfl) ?_
      refine lv_iload_n hx hb dX3_pairAt_66 rfl (lv_at hl 1 rfl) ?_
      refine k_Ri (va_runV (As := [.int (nI 0), .int r]) (rest := []) hF (c_X3_pairOfScore l D cI cA ad n (tlS x n) (nI 0) r hn) (cwV 2 hts gX3_pairAt_X3_pairOfScore rfl rfl rfl (by decide +kernel) ⟨(Nat.le_of_ble_eq_true rfl), (Nat.le_of_ble_eq_true rfl)⟩) (k_pre hP hK hD hT (k := 0) (by decide) cF_0 rfl) rfl rfl hl.1 rfl (lv_room (Nat.le_of_ble_eq_true rfl)) dX3_pairAt_67 ⟨Nat.zero_le _, Nat.zero_le _⟩) ?_
      exact hret _ _ _ _ _ _ hP hS dX3_pairAt_70 (by first | (rw [← hr, pW]; done) | (rw [← hr, pW, if_pos (by assumption)])) (rfl)
    | succ sq ih31 =>
      intro hb31 r hr H locs hP hS ls hl
      have ih31 := ih31 (by omega)
      refine lv_iload hx hb dX3_pairAt_31 (lv_at hl 2 rfl) ?_
      refine r_ifleN (a := sq + 1) (tgt := 63) hx hb (by omega) dX3_pairAt_33 (by decide) (fun h => absurd h (by omega)) (fun _ => ?_)
      refine lv_iload_n hx hb dX3_pairAt_36 rfl (lv_at hl 1 rfl) ?_
      refine lv_aload_n hx hb dX3_pairAt_37 rfl (lv_at hl 0 rfl) ?_
      refine r_get (C := RX3) (T := TX3) (M := 4) (index := 30) (fd := "pairsOfScore") (fo := "[I") hx hb hts (by decide +kernel) hown hK hP 0 (by decide) cF_0 rfl 3 (by decide) rfl (by decide +kernel) rfl dX3_pairAt_38 ?_
      refine lv_iload hx hb dX3_pairAt_41 (lv_at hl 2 rfl) ?_
      refine r_iald hx hb hK hP 12 0 (by omega) cF_12 rfl (i := sq + 1) (by omega) (by decide) dX3_pairAt_43 ?_
      refine lv_icmp_lt (tgt := 63) hx hb dX3_pairAt_44 (by decide) (fun h44_5 => ?_) (fun h44_5 => ?_)
      · refine lv_aload_n hx hb dX3_pairAt_63 rfl (lv_at hl 0 rfl) ?_
        refine lv_iload hx hb dX3_pairAt_64 (lv_at hl 2 rfl) ?_
        refine lv_iload_n hx hb dX3_pairAt_66 rfl (lv_at hl 1 rfl) ?_
        refine k_Ri (va_runV (As := [.int (nI (sq + 1)), .int r]) (rest := []) hF (c_X3_pairOfScore l D cI cA ad n (tlS x n) (nI (sq + 1)) r hn) (cwV 2 hts gX3_pairAt_X3_pairOfScore rfl rfl rfl (by decide +kernel) ⟨(Nat.le_of_ble_eq_true rfl), (Nat.le_of_ble_eq_true rfl)⟩) (k_pre hP hK hD hT (k := 0) (by decide) cF_0 rfl) rfl rfl hl.1 rfl (lv_room (Nat.le_of_ble_eq_true rfl)) dX3_pairAt_67 ⟨Nat.zero_le _, Nat.zero_le _⟩) ?_
        exact hret _ _ _ _ _ _ hP hS dX3_pairAt_70 (by first | (rw [← hr, pW]; done) | (rw [← hr, pW, if_pos (by assumption)])) (rfl)
      · refine lv_iload_n hx hb dX3_pairAt_47 rfl (lv_at hl 1 rfl) ?_
        refine lv_aload_n hx hb dX3_pairAt_48 rfl (lv_at hl 0 rfl) ?_
        refine r_get (C := RX3) (T := TX3) (M := 4) (index := 30) (fd := "pairsOfScore") (fo := "[I") hx hb hts (by decide +kernel) hown hK hP 0 (by decide) cF_0 rfl 3 (by decide) rfl (by decide +kernel) rfl dX3_pairAt_49 ?_
        refine lv_iload hx hb dX3_pairAt_52 (lv_at hl 2 rfl) ?_
        refine r_iald hx hb hK hP 12 0 (by omega) cF_12 rfl (i := sq + 1) (by omega) (by decide) dX3_pairAt_54 ?_
        refine lv_isub hx hb dX3_pairAt_55 ?_
        refine lv_istore_n (lv' := [(3, .int (r - ((tlS x n) 12 (sq + 1)))), (0, .ref (ad 0)), (4, .int (nI (sq + 1)))]) hx hb dX3_pairAt_56 rfl hl (by decide) rfl (fun ls hl => ?_)
        refine lv_iinc (k := 2) (v := nI sq) (lv' := [(4, .int (nI sq)), (3, .int (r - ((tlS x n) 12 (sq + 1)))), (0, .ref (ad 0))]) hx hb dX3_pairAt_57 hl rfl (pk_m1 sq) (by decide) rfl (fun ls hl => ?_)
        refine lv_goto (tgt := 31) hx hb dX3_pairAt_60 (by decide) ?_
        exact ih31 (r - ((tlS x n) 12 (sq + 1))) (by rw [← hr, pW, if_neg (by assumption)]) _ _ hP hS _ (lv_cast (lv_sub (l' := [(0, .ref (ad 0)), (3, .int (r - ((tlS x n) 12 (sq + 1)))), (4, .int (nI sq))]) hl [2, 1, 0] rfl) (by rw [show ((r - ((tlS x n) 12 (sq + 1))) : Int32) = r - ((tlS x n) 12 (sq + 1)) from rfl]))
  exact hL31 152 (by omega) (nI q) (rfl) _ _ hP hS _ (lv_cast (lv_sub (l' := [(0, .ref (ad 0)), (3, .int (nI q)), (4, .int (nI 152))]) hl [3, 1, 0] rfl) (by rw [show ((nI q) : Int32) = nI q from rfl, show (nI (152) : Int32) = nI 152 from congrArg nI (by omega)]))
set_option maxHeartbeats 4000000 in
set_option maxRecDepth 100000 in
theorem c_X3_turnDown_g (l : Launch) (D : va_G) (cI : ClassId) (cA : ClassId) (ad : Nat → Nat) (n : Nat) (x : Nat → Nat → Int32) (c : Nat) (d : Nat) (hc : c < n) (hd : d < n) (hne : c ≠ d) (hn : n ≤ 24) (hsg : ¬ sg x c d = 0) : Met l yX3_turnDown wsX3_turnDown ({ frames := 5, cells := 0, slots := 0, locals := 116 }) (va_Pc [.ref (ad 0), .int (nI c), .int (nI d), .int (bI true)] (cX D cI cA ad n x)) (qW D ad (cF cI cA ad n (tlS (rfgX x c d) n)) 46 (some (.int (tlC (rfgX x c d) n)))) 0 0 (wA ad 46) := by
  refine c_ofW (cc := cX3_turnDown) (maxL := 4) (ret := .int) (by decide) rfl rfl (Nat.le_of_ble_eq_true rfl) ?_
  intro p e s m av below meth cd Q hx hb hF hP hK hD hT hret ls hl
  have hown : s.vm.findClass RX3 = some m.cls := hF.2.2.2.1
  have hF : CallFix p m cd cX3_turnDown 4 s av wsX3_turnDown RX3 := hF
  have hts := hF.2.2.2.2
  have hl : lv_has ls 4 [(0, .ref (ad 0)), (1, .int (nI c)), (2, .int (nI d)), (3, .int (bI true))] := hl
  obtain ⟨H, eH⟩ : ∃ H9 : Heap, H9 = s.heap := ⟨_, rfl⟩
  obtain ⟨locs, eL⟩ : ∃ L9 : List Loc, L9 = [] := ⟨_, rfl⟩
  have hS : sS (wA ad 46) s.heap H locs := by rw [eH, eL]; exact sS.rf
  rw [← eH] at hP
  suffices hgo : W p l e ({ frames := 5, cells := 0, slots := 0, locals := 116 }) s m av below meth cd H locs 0 0 Q (F0 m 0 ls []) by rw [eH, eL] at hgo; exact hgo
  clear eH eL
  refine lv_aload_n hx hb dX3_turnDown_0 rfl (lv_at hl 0 rfl) ?_
  refine lv_iload_n hx hb dX3_turnDown_1 rfl (lv_at hl 1 rfl) ?_
  refine lv_iload_n hx hb dX3_turnDown_2 rfl (lv_at hl 2 rfl) ?_
  refine k_Rv (va_runV (As := [.int (nI c), .int (nI d)]) (rest := []) hF (c_X3_checkTwoCards l D cI cA ad n x c d hc hd hne hn) (cwV 2 hts gX3_turnDown_X3_checkTwoCards rfl rfl rfl (by decide +kernel) ⟨(Nat.le_of_ble_eq_true rfl), (Nat.le_of_ble_eq_true rfl)⟩) (k_pre hP hK hD hT (k := 0) (by decide) cF_0 rfl) rfl rfl hl.1 rfl (lv_room (Nat.le_of_ble_eq_true rfl)) dX3_turnDown_3 ⟨Nat.zero_le _, Nat.zero_le _⟩) ?_
  refine lv_aload_n hx hb dX3_turnDown_6 rfl (lv_at hl 0 rfl) ?_
  refine lv_iload_n hx hb dX3_turnDown_7 rfl (lv_at hl 1 rfl) ?_
  refine lv_iload_n hx hb dX3_turnDown_8 rfl (lv_at hl 2 rfl) ?_
  refine k_Ri (va_runV (As := [.int (nI c), .int (nI d)]) (rest := []) hF (c_X3_suggestedScore l D cI cA ad n x c d (by omega) (by omega)) (cwV 2 hts gX3_turnDown_X3_suggestedScore rfl rfl rfl (by decide +kernel) ⟨(Nat.le_of_ble_eq_true rfl), (Nat.le_of_ble_eq_true rfl)⟩) (k_pre hP hK hD hT (k := 0) (by decide) cF_0 rfl) rfl rfl hl.1 rfl (lv_room (Nat.le_of_ble_eq_true rfl)) dX3_turnDown_9 ⟨Nat.zero_le _, Nat.zero_le _⟩) ?_
  refine lv_if_ne (tgt := 25) hx hb dX3_turnDown_12 (by decide) (fun _ => ?_) (fun h => absurd h hsg)
  refine lv_iload_n hx hb dX3_turnDown_25 rfl (lv_at hl 3 rfl) ?_
  refine r_ifeqB (b := true) (tgt := 41) hx hb dX3_turnDown_26 (by decide) (fun h => absurd h (by decide)) (fun _ => ?_)
  refine lv_aload_n hx hb dX3_turnDown_29 rfl (lv_at hl 0 rfl) ?_
  refine r_get (C := RX3) (T := TX3) (M := 4) (index := 26) (fd := "refusals") (fo := "LCardMerger$Refusals;") hx hb hts (by decide +kernel) hown hK hP 0 (by decide) cF_0 rfl 2 (by decide) rfl (by decide +kernel) rfl dX3_turnDown_30 ?_
  refine lv_iload_n hx hb dX3_turnDown_33 rfl (lv_at hl 1 rfl) ?_
  refine lv_iload_n hx hb dX3_turnDown_34 rfl (lv_at hl 2 rfl) ?_
  refine k_Wv (va_runV (As := [.int (nI c), .int (nI d)]) (rest := []) hF (c_X2_refuseForGood l D cI cA ad n x c d (by omega) (by omega)) (cwV 2 hts gX3_turnDown_X2_refuseForGood rfl rfl rfl (by decide +kernel) ⟨(Nat.le_of_ble_eq_true rfl), (Nat.le_of_ble_eq_true rfl)⟩) (k_pre hP hK hD hT (k := 3) (by decide) cF_3 rfl) rfl rfl hl.1 rfl (lv_room (Nat.le_of_ble_eq_true rfl)) dX3_turnDown_35 ⟨Nat.zero_le _, Nat.zero_le _⟩) hD hS (fun H locs hP hS => ?_)
  refine lv_goto (tgt := 59) hx hb dX3_turnDown_38 (by decide) ?_
  refine lv_aload_n hx hb dX3_turnDown_59 rfl (lv_at hl 0 rfl) ?_
  refine k_Wi (va_runV (As := []) (rest := []) hF (c_X3_tallyPairs l D cI cA ad n (rfgX x c d) hn) (cwV 0 hts gX3_turnDown_X3_tallyPairs rfl rfl rfl (by decide +kernel) ⟨(Nat.le_of_ble_eq_true rfl), (Nat.le_of_ble_eq_true rfl)⟩) (k_pre hP hK hD hT (k := 0) (by decide) cF_0 rfl) rfl rfl hl.1 rfl (lv_room (Nat.le_of_ble_eq_true rfl)) dX3_turnDown_60 ⟨Nat.zero_le _, Nat.zero_le _⟩) hD hS (fun H locs hP hS => ?_)
  exact hret _ _ _ _ _ _ hP hS dX3_turnDown_63 (rfl) (rfl)
set_option maxHeartbeats 4000000 in
set_option maxRecDepth 100000 in
theorem c_X3_turnDown_n (l : Launch) (D : va_G) (cI : ClassId) (cA : ClassId) (ad : Nat → Nat) (n : Nat) (x : Nat → Nat → Int32) (c : Nat) (d : Nat) (hc : c < n) (hd : d < n) (hne : c ≠ d) (hn : n ≤ 24) (hsg : ¬ sg x c d = 0) : Met l yX3_turnDown wsX3_turnDown ({ frames := 5, cells := 0, slots := 0, locals := 116 }) (va_Pc [.ref (ad 0), .int (nI c), .int (nI d), .int (bI false)] (cX D cI cA ad n x)) (qW D ad (cF cI cA ad n (tlS (rfnX x c d (mcOf x c d)) n)) 46 (some (.int (tlC (rfnX x c d (mcOf x c d)) n)))) 0 0 (wA ad 46) := by
  refine c_ofW (cc := cX3_turnDown) (maxL := 4) (ret := .int) (by decide) rfl rfl (Nat.le_of_ble_eq_true rfl) ?_
  intro p e s m av below meth cd Q hx hb hF hP hK hD hT hret ls hl
  have hown : s.vm.findClass RX3 = some m.cls := hF.2.2.2.1
  have hF : CallFix p m cd cX3_turnDown 4 s av wsX3_turnDown RX3 := hF
  have hts := hF.2.2.2.2
  have hl : lv_has ls 4 [(0, .ref (ad 0)), (1, .int (nI c)), (2, .int (nI d)), (3, .int (bI false))] := hl
  obtain ⟨H, eH⟩ : ∃ H9 : Heap, H9 = s.heap := ⟨_, rfl⟩
  obtain ⟨locs, eL⟩ : ∃ L9 : List Loc, L9 = [] := ⟨_, rfl⟩
  have hS : sS (wA ad 46) s.heap H locs := by rw [eH, eL]; exact sS.rf
  rw [← eH] at hP
  suffices hgo : W p l e ({ frames := 5, cells := 0, slots := 0, locals := 116 }) s m av below meth cd H locs 0 0 Q (F0 m 0 ls []) by rw [eH, eL] at hgo; exact hgo
  clear eH eL
  refine lv_aload_n hx hb dX3_turnDown_0 rfl (lv_at hl 0 rfl) ?_
  refine lv_iload_n hx hb dX3_turnDown_1 rfl (lv_at hl 1 rfl) ?_
  refine lv_iload_n hx hb dX3_turnDown_2 rfl (lv_at hl 2 rfl) ?_
  refine k_Rv (va_runV (As := [.int (nI c), .int (nI d)]) (rest := []) hF (c_X3_checkTwoCards l D cI cA ad n x c d hc hd hne hn) (cwV 2 hts gX3_turnDown_X3_checkTwoCards rfl rfl rfl (by decide +kernel) ⟨(Nat.le_of_ble_eq_true rfl), (Nat.le_of_ble_eq_true rfl)⟩) (k_pre hP hK hD hT (k := 0) (by decide) cF_0 rfl) rfl rfl hl.1 rfl (lv_room (Nat.le_of_ble_eq_true rfl)) dX3_turnDown_3 ⟨Nat.zero_le _, Nat.zero_le _⟩) ?_
  refine lv_aload_n hx hb dX3_turnDown_6 rfl (lv_at hl 0 rfl) ?_
  refine lv_iload_n hx hb dX3_turnDown_7 rfl (lv_at hl 1 rfl) ?_
  refine lv_iload_n hx hb dX3_turnDown_8 rfl (lv_at hl 2 rfl) ?_
  refine k_Ri (va_runV (As := [.int (nI c), .int (nI d)]) (rest := []) hF (c_X3_suggestedScore l D cI cA ad n x c d (by omega) (by omega)) (cwV 2 hts gX3_turnDown_X3_suggestedScore rfl rfl rfl (by decide +kernel) ⟨(Nat.le_of_ble_eq_true rfl), (Nat.le_of_ble_eq_true rfl)⟩) (k_pre hP hK hD hT (k := 0) (by decide) cF_0 rfl) rfl rfl hl.1 rfl (lv_room (Nat.le_of_ble_eq_true rfl)) dX3_turnDown_9 ⟨Nat.zero_le _, Nat.zero_le _⟩) ?_
  refine lv_if_ne (tgt := 25) hx hb dX3_turnDown_12 (by decide) (fun _ => ?_) (fun h => absurd h hsg)
  refine lv_iload_n hx hb dX3_turnDown_25 rfl (lv_at hl 3 rfl) ?_
  refine r_ifeqB (b := false) (tgt := 41) hx hb dX3_turnDown_26 (by decide) (fun _ => ?_) (fun h => absurd h (by decide))
  refine lv_aload_n hx hb dX3_turnDown_41 rfl (lv_at hl 0 rfl) ?_
  refine r_get (C := RX3) (T := TX3) (M := 4) (index := 26) (fd := "refusals") (fo := "LCardMerger$Refusals;") hx hb hts (by decide +kernel) hown hK hP 0 (by decide) cF_0 rfl 2 (by decide) rfl (by decide +kernel) rfl dX3_turnDown_42 ?_
  refine lv_iload_n hx hb dX3_turnDown_45 rfl (lv_at hl 1 rfl) ?_
  refine lv_iload_n hx hb dX3_turnDown_46 rfl (lv_at hl 2 rfl) ?_
  refine lv_aload_n hx hb dX3_turnDown_47 rfl (lv_at hl 0 rfl) ?_
  refine r_get (C := RX3) (T := TX3) (M := 4) (index := 12) (fd := "cards") (fo := "LCardMerger$Cards;") hx hb hts (by decide +kernel) hown hK hP 0 (by decide) cF_0 rfl 0 (by decide) rfl (by decide +kernel) rfl dX3_turnDown_48 ?_
  refine lv_iload_n hx hb dX3_turnDown_51 rfl (lv_at hl 1 rfl) ?_
  refine lv_iload_n hx hb dX3_turnDown_52 rfl (lv_at hl 2 rfl) ?_
  refine k_Ri (va_runV (As := [.int (nI c), .int (nI d)]) (rest := [.int (nI d), .int (nI c), .ref (ad 3)]) hF (c_X0_mineChangesOf l D cI cA ad n x c d (by omega) (by omega)) (cwV 2 hts gX3_turnDown_X0_mineChangesOf rfl rfl rfl (by decide +kernel) ⟨(Nat.le_of_ble_eq_true rfl), (Nat.le_of_ble_eq_true rfl)⟩) (k_pre hP hK hD hT (k := 1) (by decide) cF_1 rfl) rfl rfl hl.1 rfl (lv_room (Nat.le_of_ble_eq_true rfl)) dX3_turnDown_53 ⟨Nat.zero_le _, Nat.zero_le _⟩) ?_
  refine k_Wv (va_runV (As := [.int (nI c), .int (nI d), .int (mcOf x c d)]) (rest := []) hF (c_X2_refuseForNow l D cI cA ad n x c d (mcOf x c d) (by omega) (by omega)) (cwV 3 hts gX3_turnDown_X2_refuseForNow rfl rfl rfl (by decide +kernel) ⟨(Nat.le_of_ble_eq_true rfl), (Nat.le_of_ble_eq_true rfl)⟩) (k_pre hP hK hD hT (k := 3) (by decide) cF_3 rfl) rfl rfl hl.1 rfl (lv_room (Nat.le_of_ble_eq_true rfl)) dX3_turnDown_56 ⟨Nat.zero_le _, Nat.zero_le _⟩) hD hS (fun H locs hP hS => ?_)
  refine lv_aload_n hx hb dX3_turnDown_59 rfl (lv_at hl 0 rfl) ?_
  refine k_Wi (va_runV (As := []) (rest := []) hF (c_X3_tallyPairs l D cI cA ad n (rfnX x c d (mcOf x c d)) hn) (cwV 0 hts gX3_turnDown_X3_tallyPairs rfl rfl rfl (by decide +kernel) ⟨(Nat.le_of_ble_eq_true rfl), (Nat.le_of_ble_eq_true rfl)⟩) (k_pre hP hK hD hT (k := 0) (by decide) cF_0 rfl) rfl rfl hl.1 rfl (lv_room (Nat.le_of_ble_eq_true rfl)) dX3_turnDown_60 ⟨Nat.zero_le _, Nat.zero_le _⟩) hD hS (fun H locs hP hS => ?_)
  exact hret _ _ _ _ _ _ hP hS dX3_turnDown_63 (rfl) (rfl)
