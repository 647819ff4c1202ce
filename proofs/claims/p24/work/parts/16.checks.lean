set_option maxHeartbeats 4000000 in
set_option maxRecDepth 100000 in
theorem c_X3_checkBook (l : Launch) (D : va_G) (cI : ClassId) (cA : ClassId) (ad : Nat → Nat) (n : Nat) (x : Nat → Nat → Int32) (b : Int32) (hbk : bookB b = true) : Met l yX3_checkBook wsX3_checkBook ({ frames := 0, cells := 0, slots := 0, locals := 0 }) (va_Pc [.ref (ad 0), .int b] (cX D cI cA ad n x)) (qR none) 0 0 nF := by
  refine c_ofU (cc := cX3_checkBook) (maxL := 2) (by decide) rfl (Nat.le_of_ble_eq_true rfl) ?_
  intro p e s m av below meth cd Q hx hb hF hB hret ls hl
  obtain ⟨hP, hK, hD, hT⟩ := hB
  have hown : s.vm.findClass RX3 = some m.cls := hF.2.2.2.1
  have hF : CallFix p m cd cX3_checkBook 2 s av wsX3_checkBook RX3 := hF
  have hts := hF.2.2.2.2
  have hl : lv_has ls 2 [(0, .ref (ad 0)), (1, .int b)] := hl
  refine lv_iload_n hx hb dX3_checkBook_0 rfl (lv_at hl 1 rfl) ?_
  refine lv_if_lt (tgt := 9) hx hb dX3_checkBook_1 (by decide) (fun h => absurd h (bookB_1 hbk)) (fun _ => ?_)
  refine lv_iload_n hx hb dX3_checkBook_4 rfl (lv_at hl 1 rfl) ?_
  refine lv_iconst (v := nI 3) hx hb dX3_checkBook_5 (by decide) ?_
  refine lv_icmp_lt (tgt := 19) hx hb dX3_checkBook_6 (by decide) (fun _ => ?_) (fun h => absurd (bookB_2 hbk) h)
  exact hret _ _ dX3_checkBook_19
set_option maxHeartbeats 4000000 in
set_option maxRecDepth 100000 in
theorem c_X3_checkCard (l : Launch) (D : va_G) (cI : ClassId) (cA : ClassId) (ad : Nat → Nat) (n : Nat) (x : Nat → Nat → Int32) (c : Nat) (hc : c < n) (hn : n ≤ 24) : Met l yX3_checkCard wsX3_checkCard ({ frames := 0, cells := 0, slots := 0, locals := 0 }) (va_Pc [.ref (ad 0), .int (nI c)] (cX D cI cA ad n x)) (qR none) 0 0 nF := by
  refine c_ofU (cc := cX3_checkCard) (maxL := 2) (by decide) rfl (Nat.le_of_ble_eq_true rfl) ?_
  intro p e s m av below meth cd Q hx hb hF hB hret ls hl
  obtain ⟨hP, hK, hD, hT⟩ := hB
  have hown : s.vm.findClass RX3 = some m.cls := hF.2.2.2.1
  have hF : CallFix p m cd cX3_checkCard 2 s av wsX3_checkCard RX3 := hF
  have hts := hF.2.2.2.2
  have hl : lv_has ls 2 [(0, .ref (ad 0)), (1, .int (nI c))] := hl
  refine lv_iload_n hx hb dX3_checkCard_0 rfl (lv_at hl 1 rfl) ?_
  refine r_ifltN (a := c) (tgt := 15) hx hb (by omega) dX3_checkCard_1 (by decide) ?_
  refine lv_iload_n hx hb dX3_checkCard_4 rfl (lv_at hl 1 rfl) ?_
  refine lv_aload_n hx hb dX3_checkCard_5 rfl (lv_at hl 0 rfl) ?_
  refine r_get (C := RX3) (T := TX3) (M := 4) (index := 12) (fd := "cards") (fo := "LCardMerger$Cards;") hx hb hts (by decide +kernel) hown hK hP 0 (by decide) cF_0 rfl 0 (by decide) rfl (by decide +kernel) rfl dX3_checkCard_6 ?_
  refine r_cnt hx hb hts (by decide +kernel) hown hK hP hT.1 dX3_checkCard_9 ?_
  refine r_cltN (a := c) (b := n) (tgt := 25) hx hb (by omega) (by omega) dX3_checkCard_12 (by decide) (fun _ => ?_) (fun h => absurd h (by omega))
  exact hret _ _ dX3_checkCard_25
set_option maxHeartbeats 4000000 in
set_option maxRecDepth 100000 in
theorem c_X3_checkArgument (l : Launch) : Met l yX3_checkArgument wsX3_checkArgument ({ frames := 0, cells := 0, slots := 0, locals := 0 }) (va_Pc [.int (bI true)] (fun _ => True)) (qR none) 0 0 nF := by
  refine c_ofU (cc := cX3_checkArgument) (maxL := 1) (by decide) rfl (Nat.le_of_ble_eq_true rfl) ?_
  intro p e s m av below meth cd Q hx hb hF hB hret ls hl
  have hown : s.vm.findClass RX3 = some m.cls := hF.2.2.2.1
  have hF : CallFix p m cd cX3_checkArgument 1 s av wsX3_checkArgument RX3 := hF
  have hts := hF.2.2.2.2
  have hl : lv_has ls 1 [(0, .int (bI true))] := hl
  refine lv_iload_n hx hb dX3_checkArgument_0 rfl (lv_at hl 0 rfl) ?_
  refine r_ifneB (b := true) (tgt := 14) hx hb dX3_checkArgument_1 (by decide) (fun _ => ?_) (fun h => absurd h (by decide))
  exact hret _ _ dX3_checkArgument_14
set_option maxHeartbeats 4000000 in
set_option maxRecDepth 100000 in
theorem c_X3_checkTwoCards (l : Launch) (D : va_G) (cI : ClassId) (cA : ClassId) (ad : Nat → Nat) (n : Nat) (x : Nat → Nat → Int32) (c : Nat) (d : Nat) (hc : c < n) (hd : d < n) (hne : c ≠ d) (hn : n ≤ 24) : Met l yX3_checkTwoCards wsX3_checkTwoCards ({ frames := 1, cells := 0, slots := 0, locals := 21 }) (va_Pc [.ref (ad 0), .int (nI c), .int (nI d)] (cX D cI cA ad n x)) (qR none) 0 0 nF := by
  refine c_ofU (cc := cX3_checkTwoCards) (maxL := 3) (by decide) rfl (Nat.le_of_ble_eq_true rfl) ?_
  intro p e s m av below meth cd Q hx hb hF hB hret ls hl
  obtain ⟨hP, hK, hD, hT⟩ := hB
  have hown : s.vm.findClass RX3 = some m.cls := hF.2.2.2.1
  have hF : CallFix p m cd cX3_checkTwoCards 3 s av wsX3_checkTwoCards RX3 := hF
  have hts := hF.2.2.2.2
  have hl : lv_has ls 3 [(0, .ref (ad 0)), (1, .int (nI c)), (2, .int (nI d))] := hl
  refine lv_aload_n hx hb dX3_checkTwoCards_0 rfl (lv_at hl 0 rfl) ?_
  refine lv_iload_n hx hb dX3_checkTwoCards_1 rfl (lv_at hl 1 rfl) ?_
  refine k_Rv (va_runV (As := [.int (nI c)]) (rest := []) hF (c_X3_checkCard l D cI cA ad n x c hc hn) (cwV 1 hts gX3_checkTwoCards_X3_checkCard rfl rfl rfl (by decide +kernel) ⟨(Nat.le_of_ble_eq_true rfl), (Nat.le_of_ble_eq_true rfl)⟩) (k_pre hP hK hD hT (k := 0) (by decide) cF_0 rfl) rfl rfl hl.1 rfl (lv_room (Nat.le_of_ble_eq_true rfl)) dX3_checkTwoCards_2 ⟨Nat.zero_le _, Nat.zero_le _⟩) ?_
  refine lv_aload_n hx hb dX3_checkTwoCards_5 rfl (lv_at hl 0 rfl) ?_
  refine lv_iload_n hx hb dX3_checkTwoCards_6 rfl (lv_at hl 2 rfl) ?_
  refine k_Rv (va_runV (As := [.int (nI d)]) (rest := []) hF (c_X3_checkCard l D cI cA ad n x d hd hn) (cwV 1 hts gX3_checkTwoCards_X3_checkCard rfl rfl rfl (by decide +kernel) ⟨(Nat.le_of_ble_eq_true rfl), (Nat.le_of_ble_eq_true rfl)⟩) (k_pre hP hK hD hT (k := 0) (by decide) cF_0 rfl) rfl rfl hl.1 rfl (lv_room (Nat.le_of_ble_eq_true rfl)) dX3_checkTwoCards_7 ⟨Nat.zero_le _, Nat.zero_le _⟩) ?_
  refine lv_iload_n hx hb dX3_checkTwoCards_10 rfl (lv_at hl 1 rfl) ?_
  refine lv_iload_n hx hb dX3_checkTwoCards_11 rfl (lv_at hl 2 rfl) ?_
  refine r_ceqN (a := c) (b := d) (tgt := 19) hx hb (by omega) (by omega) dX3_checkTwoCards_12 (by decide) (fun h => absurd h (by omega)) (fun _ => ?_)
  refine lv_iconst (v := nI 1) hx hb dX3_checkTwoCards_15 (by decide) ?_
  refine lv_goto (tgt := 20) hx hb dX3_checkTwoCards_16 (by decide) ?_
  refine k_Rv (va_runS (As := [.int (nI 1)]) (rest := []) hF (c_X3_checkArgument l) (va_cwS 1 hts gX3_checkTwoCards_X3_checkArgument rfl rfl rfl (by decide +kernel) ⟨(Nat.le_of_ble_eq_true rfl), (Nat.le_of_ble_eq_true rfl)⟩) k_preS rfl rfl hl.1 rfl (lv_room (Nat.le_of_ble_eq_true rfl)) dX3_checkTwoCards_20 ⟨Nat.zero_le _, Nat.zero_le _⟩) ?_
  exact hret _ _ dX3_checkTwoCards_23
