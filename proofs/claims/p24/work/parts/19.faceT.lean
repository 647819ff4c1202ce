set_option maxHeartbeats 4000000 in
set_option maxRecDepth 100000 in
theorem c_X3_add_Ta (l : Launch) (D : va_G) (cI : ClassId) (cA : ClassId) (ad : Nat → Nat) (n : Nat) (x : Nat → Nat → Int32) (b : Int32) (w : Int32) (hlt : l.stackTraces = false) (hbk : bookB b = false) : vx_Met l yX3_add wsX3_add ({ frames := 7, cells := 1, slots := 6, locals := 103 }) (va_Pc [.ref (ad 0), .int b, .int w] (cT D cI cA ad n x)) nQ (xE IOOB) 1 6 nF := by
  refine c_ofT (cc := cX3_add) (maxL := 3) (by decide) rfl (Nat.le_of_ble_eq_true rfl) ?_
  intro p e s m av below meth cd Q hQ hx hb hF htab hlocks hB ls hl
  obtain ⟨⟨hP, hK, hD, hT⟩, hXF⟩ := hB
  have hown : s.vm.findClass RX3 = some m.cls := hF.2.2.2.1
  have hF : CallFix p m cd cX3_add 3 s av wsX3_add RX3 := hF
  have hts := hF.2.2.2.2
  have hl : lv_has ls 3 [(0, .ref (ad 0)), (1, .int b), (2, .int w)] := hl
  refine lv_aload_n hx hb dX3_add_0 rfl (lv_at hl 0 rfl) ?_
  refine lv_iload_n hx hb dX3_add_1 rfl (lv_at hl 1 rfl) ?_
  rw [hQ]
  exact k_To (vx_runV (As := [.int b]) (rest := []) hF (c_X3_checkBook_T l D cI cA ad n x b (by omega) hbk) (cwV 1 hts gX3_add_X3_checkBook rfl rfl rfl (by decide +kernel) ⟨(Nat.le_of_ble_eq_true rfl), (Nat.le_of_ble_eq_true rfl)⟩) (k_preT hP hK hD hT hXF (k := 0) (by decide) cF_0 rfl) rfl rfl hl.1 rfl (lv_room (Nat.le_of_ble_eq_true rfl)) dX3_add_2 ⟨(Nat.le_of_ble_eq_true rfl), (Nat.le_of_ble_eq_true rfl)⟩) (fun _ _ _ h => h) htab hlocks
set_option maxHeartbeats 4000000 in
set_option maxRecDepth 100000 in
theorem c_X3_add_Tb (l : Launch) (D : va_G) (cI : ClassId) (cA : ClassId) (ad : Nat → Nat) (n : Nat) (x : Nat → Nat → Int32) (b : Int32) (w : Int32) (hlt : l.stackTraces = false) (hbk : bookB b = true) (hnm : nameB w = false) : vx_Met l yX3_add wsX3_add ({ frames := 7, cells := 1, slots := 6, locals := 102 }) (va_Pc [.ref (ad 0), .int b, .int w] (cT D cI cA ad n x)) nQ (xE IAE) 1 6 nF := by
  refine c_ofT (cc := cX3_add) (maxL := 3) (by decide) rfl (Nat.le_of_ble_eq_true rfl) ?_
  intro p e s m av below meth cd Q hQ hx hb hF htab hlocks hB ls hl
  obtain ⟨⟨hP, hK, hD, hT⟩, hXF⟩ := hB
  have hown : s.vm.findClass RX3 = some m.cls := hF.2.2.2.1
  have hF : CallFix p m cd cX3_add 3 s av wsX3_add RX3 := hF
  have hts := hF.2.2.2.2
  have hl : lv_has ls 3 [(0, .ref (ad 0)), (1, .int b), (2, .int w)] := hl
  refine lv_aload_n hx hb dX3_add_0 rfl (lv_at hl 0 rfl) ?_
  refine lv_iload_n hx hb dX3_add_1 rfl (lv_at hl 1 rfl) ?_
  refine k_Rv (va_runV (As := [.int b]) (rest := []) hF (c_X3_checkBook l D cI cA ad n x b hbk) (cwV 1 hts gX3_add_X3_checkBook rfl rfl rfl (by decide +kernel) ⟨(Nat.le_of_ble_eq_true rfl), (Nat.le_of_ble_eq_true rfl)⟩) (k_pre hP hK hD hT (k := 0) (by decide) cF_0 rfl) rfl rfl hl.1 rfl (lv_room (Nat.le_of_ble_eq_true rfl)) dX3_add_2 ⟨Nat.zero_le _, Nat.zero_le _⟩) ?_
  refine lv_iload_n hx hb dX3_add_5 rfl (lv_at hl 2 rfl) ?_
  refine k_Ri (va_runS (As := [.int w]) (rest := []) hF (c_X3_isName l w) (va_cwS 1 hts gX3_add_X3_isName rfl rfl rfl (by decide +kernel) ⟨(Nat.le_of_ble_eq_true rfl), (Nat.le_of_ble_eq_true rfl)⟩) k_preS rfl rfl hl.1 rfl (lv_room (Nat.le_of_ble_eq_true rfl)) dX3_add_6 ⟨Nat.zero_le _, Nat.zero_le _⟩) ?_
  refine r_topi (show bI (nameB w) = bI false from congrArg bI (hnm)) ?_
  rw [hQ]
  exact k_To (vx_runS (As := [.int (bI false)]) (rest := []) hF (c_X3_checkArgument_T l _ (by omega)) (va_cwS 1 hts gX3_add_X3_checkArgument rfl rfl rfl (by decide +kernel) ⟨(Nat.le_of_ble_eq_true rfl), (Nat.le_of_ble_eq_true rfl)⟩) (k_preX hXF) rfl rfl hl.1 rfl (lv_room (Nat.le_of_ble_eq_true rfl)) dX3_add_9 ⟨(Nat.le_of_ble_eq_true rfl), (Nat.le_of_ble_eq_true rfl)⟩) (fun _ _ _ h => h) htab hlocks
set_option maxHeartbeats 4000000 in
set_option maxRecDepth 100000 in
theorem c_X3_add_Tc (l : Launch) (D : va_G) (cI : ClassId) (cA : ClassId) (ad : Nat → Nat) (n : Nat) (x : Nat → Nat → Int32) (b : Int32) (w : Int32) (hlt : l.stackTraces = false) (hbk : bookB b = true) (hnm : nameB w = true) (hn : n = 24) : vx_Met l yX3_add wsX3_add ({ frames := 6, cells := 1, slots := 6, locals := 82 }) (va_Pc [.ref (ad 0), .int b, .int w] (cT D cI cA ad n x)) nQ (xE ISE) 1 6 nF := by
  refine c_ofT (cc := cX3_add) (maxL := 3) (by decide) rfl (Nat.le_of_ble_eq_true rfl) ?_
  intro p e s m av below meth cd Q hQ hx hb hF htab hlocks hB ls hl
  obtain ⟨⟨hP, hK, hD, hT⟩, hXF⟩ := hB
  have hown : s.vm.findClass RX3 = some m.cls := hF.2.2.2.1
  have hF : CallFix p m cd cX3_add 3 s av wsX3_add RX3 := hF
  have hts := hF.2.2.2.2
  have hl : lv_has ls 3 [(0, .ref (ad 0)), (1, .int b), (2, .int w)] := hl
  refine lv_aload_n hx hb dX3_add_0 rfl (lv_at hl 0 rfl) ?_
  refine lv_iload_n hx hb dX3_add_1 rfl (lv_at hl 1 rfl) ?_
  refine k_Rv (va_runV (As := [.int b]) (rest := []) hF (c_X3_checkBook l D cI cA ad n x b hbk) (cwV 1 hts gX3_add_X3_checkBook rfl rfl rfl (by decide +kernel) ⟨(Nat.le_of_ble_eq_true rfl), (Nat.le_of_ble_eq_true rfl)⟩) (k_pre hP hK hD hT (k := 0) (by decide) cF_0 rfl) rfl rfl hl.1 rfl (lv_room (Nat.le_of_ble_eq_true rfl)) dX3_add_2 ⟨Nat.zero_le _, Nat.zero_le _⟩) ?_
  refine lv_iload_n hx hb dX3_add_5 rfl (lv_at hl 2 rfl) ?_
  refine k_Ri (va_runS (As := [.int w]) (rest := []) hF (c_X3_isName l w) (va_cwS 1 hts gX3_add_X3_isName rfl rfl rfl (by decide +kernel) ⟨(Nat.le_of_ble_eq_true rfl), (Nat.le_of_ble_eq_true rfl)⟩) k_preS rfl rfl hl.1 rfl (lv_room (Nat.le_of_ble_eq_true rfl)) dX3_add_6 ⟨Nat.zero_le _, Nat.zero_le _⟩) ?_
  refine r_topi (show bI (nameB w) = bI true from congrArg bI (hnm)) ?_
  refine k_Rv (va_runS (As := [.int (bI true)]) (rest := []) hF (c_X3_checkArgument l) (va_cwS 1 hts gX3_add_X3_checkArgument rfl rfl rfl (by decide +kernel) ⟨(Nat.le_of_ble_eq_true rfl), (Nat.le_of_ble_eq_true rfl)⟩) k_preS rfl rfl hl.1 rfl (lv_room (Nat.le_of_ble_eq_true rfl)) dX3_add_9 ⟨Nat.zero_le _, Nat.zero_le _⟩) ?_
  refine lv_aload_n hx hb dX3_add_12 rfl (lv_at hl 0 rfl) ?_
  refine r_get (C := RX3) (T := TX3) (M := 4) (index := 12) (fd := "cards") (fo := "LCardMerger$Cards;") hx hb hts (by decide +kernel) hown hK hP 0 (by decide) cF_0 rfl 0 (by decide) rfl (by decide +kernel) rfl dX3_add_13 ?_
  refine r_cnt hx hb hts (by decide +kernel) hown hK hP hT.1 dX3_add_16 ?_
  refine lv_bipush (v := nI 24) hx hb dX3_add_19 (by decide) ?_
  refine r_cltN (a := n) (b := 24) (tgt := 34) hx hb (by omega) (by omega) dX3_add_21 (by decide) (fun h => absurd h (by omega)) (fun _ => ?_)
  rw [hQ]
  exact r_throw (cls := ISE) (text := "there are 24 cards") (ik := 50) (is := 52) (ic := 54) hx hb hlt hts hown (Or.inr (Or.inr rfl)) (by decide +kernel) (by decide +kernel) (by decide +kernel) (by decide +kernel) (by decide +kernel) (by decide +kernel) hXF.2.1.2.2.2.1 hXF.2.2 hXF.1 va_S.rf (hl.1.trans hF.2.2.1.symm) dX3_add_24 dX3_add_27 dX3_add_28 dX3_add_30 dX3_add_33 htab (Nat.le_of_ble_eq_true rfl) (Nat.le_of_ble_eq_true rfl) (Nat.le_of_ble_eq_true rfl) (Nat.le_of_ble_eq_true rfl) hlocks (fun t h1 h2 => ⟨rfl, h1, h2⟩) (fun _ h => by cases h) (Nat.le_refl _) (Nat.le_refl _)
set_option maxHeartbeats 4000000 in
set_option maxRecDepth 100000 in
theorem c_X3_turn_Ta (l : Launch) (D : va_G) (cI : ClassId) (cA : ClassId) (ad : Nat → Nat) (n : Nat) (x : Nat → Nat → Int32) (a : Int32) (v : Int32) (k : Int32) (w : Int32) (hlt : l.stackTraces = false) (hca : cardB n a = false) : vx_Met l yX3_turn wsX3_turn ({ frames := 7, cells := 1, slots := 6, locals := 103 }) (va_Pc [.ref (ad 0), .int a, .int v, .int k, .int w] (cT D cI cA ad n x)) nQ (xE IOOB) 1 6 nF := by
  refine c_ofT (cc := cX3_turn) (maxL := 6) (by decide) rfl (Nat.le_of_ble_eq_true rfl) ?_
  intro p e s m av below meth cd Q hQ hx hb hF htab hlocks hB ls hl
  obtain ⟨⟨hP, hK, hD, hT⟩, hXF⟩ := hB
  have hown : s.vm.findClass RX3 = some m.cls := hF.2.2.2.1
  have hF : CallFix p m cd cX3_turn 6 s av wsX3_turn RX3 := hF
  have hts := hF.2.2.2.2
  have hl : lv_has ls 6 [(0, .ref (ad 0)), (1, .int a), (2, .int v), (3, .int k), (4, .int w)] := hl
  refine lv_aload_n hx hb dX3_turn_0 rfl (lv_at hl 0 rfl) ?_
  refine lv_iload_n hx hb dX3_turn_1 rfl (lv_at hl 1 rfl) ?_
  rw [hQ]
  exact k_To (vx_runV (As := [.int a]) (rest := []) hF (c_X3_checkCard_T l D cI cA ad n x a (by omega) hca) (cwV 1 hts gX3_turn_X3_checkCard rfl rfl rfl (by decide +kernel) ⟨(Nat.le_of_ble_eq_true rfl), (Nat.le_of_ble_eq_true rfl)⟩) (k_preT hP hK hD hT hXF (k := 0) (by decide) cF_0 rfl) rfl rfl hl.1 rfl (lv_room (Nat.le_of_ble_eq_true rfl)) dX3_turn_2 ⟨(Nat.le_of_ble_eq_true rfl), (Nat.le_of_ble_eq_true rfl)⟩) (fun _ _ _ h => h) htab hlocks
set_option maxHeartbeats 4000000 in
set_option maxRecDepth 100000 in
theorem c_X3_turn_Tb (l : Launch) (D : va_G) (cI : ClassId) (cA : ClassId) (ad : Nat → Nat) (n : Nat) (x : Nat → Nat → Int32) (c : Nat) (v : Int32) (k : Int32) (w : Int32) (hlt : l.stackTraces = false) (hc : c < n) (hn : n ≤ 24) (hbad : (chgB v && kindB k && valueB w) = false) : vx_Met l yX3_turn wsX3_turn ({ frames := 7, cells := 1, slots := 6, locals := 102 }) (va_Pc [.ref (ad 0), .int (nI c), .int v, .int k, .int w] (cT D cI cA ad n x)) nQ (xE IAE) 1 6 nF := by
  refine c_ofT (cc := cX3_turn) (maxL := 6) (by decide) rfl (Nat.le_of_ble_eq_true rfl) ?_
  intro p e s m av below meth cd Q hQ hx hb hF htab hlocks hB ls hl
  obtain ⟨⟨hP, hK, hD, hT⟩, hXF⟩ := hB
  have hown : s.vm.findClass RX3 = some m.cls := hF.2.2.2.1
  have hF : CallFix p m cd cX3_turn 6 s av wsX3_turn RX3 := hF
  have hts := hF.2.2.2.2
  have hl : lv_has ls 6 [(0, .ref (ad 0)), (1, .int (nI c)), (2, .int v), (3, .int k), (4, .int w)] := hl
  refine lv_aload_n hx hb dX3_turn_0 rfl (lv_at hl 0 rfl) ?_
  refine lv_iload_n hx hb dX3_turn_1 rfl (lv_at hl 1 rfl) ?_
  refine k_Rv (va_runV (As := [.int (nI c)]) (rest := []) hF (c_X3_checkCard l D cI cA ad n x c hc hn) (cwV 1 hts gX3_turn_X3_checkCard rfl rfl rfl (by decide +kernel) ⟨(Nat.le_of_ble_eq_true rfl), (Nat.le_of_ble_eq_true rfl)⟩) (k_pre hP hK hD hT (k := 0) (by decide) cF_0 rfl) rfl rfl hl.1 rfl (lv_room (Nat.le_of_ble_eq_true rfl)) dX3_turn_2 ⟨Nat.zero_le _, Nat.zero_le _⟩) ?_
  refine lv_iload_n hx hb dX3_turn_5 rfl (lv_at hl 2 rfl) ?_
  refine k_Ri (va_runS (As := [.int v]) (rest := []) hF (c_X3_isChangeable l v) (va_cwS 1 hts gX3_turn_X3_isChangeable rfl rfl rfl (by decide +kernel) ⟨(Nat.le_of_ble_eq_true rfl), (Nat.le_of_ble_eq_true rfl)⟩) k_preS rfl rfl hl.1 rfl (lv_room (Nat.le_of_ble_eq_true rfl)) dX3_turn_6 ⟨Nat.zero_le _, Nat.zero_le _⟩) ?_
  have hJ32 : ∀ ls : Array Slot, lv_has ls 6 [(0, .ref (ad 0)), (1, .int (nI c)), (2, .int v), (3, .int k), (4, .int w)] → W p l e ({ frames := 7, cells := 1, slots := 6, locals := 102 }) s m av below meth cd s.heap [] 0 0 Q (F0 m 32 ls [.int (bI (chgB v && kindB k && valueB w))]) := by
    intro ls hl
    refine r_topi (show bI (chgB v && kindB k && valueB w) = bI false from congrArg bI (hbad)) ?_
    rw [hQ]
    exact k_To (vx_runS (As := [.int (bI false)]) (rest := []) hF (c_X3_checkArgument_T l _ (by omega)) (va_cwS 1 hts gX3_turn_X3_checkArgument rfl rfl rfl (by decide +kernel) ⟨(Nat.le_of_ble_eq_true rfl), (Nat.le_of_ble_eq_true rfl)⟩) (k_preX hXF) rfl rfl hl.1 rfl (lv_room (Nat.le_of_ble_eq_true rfl)) dX3_turn_32 ⟨(Nat.le_of_ble_eq_true rfl), (Nat.le_of_ble_eq_true rfl)⟩) (fun _ _ _ h => h) htab hlocks
  refine r_ifeqB (b := chgB v) (tgt := 31) hx hb dX3_turn_9 (by decide) (fun h9_1 => ?_) (fun h9_1 => ?_)
  · refine lv_iconst (v := nI 0) hx hb dX3_turn_31 (by decide) ?_
    refine r_topi (show (nI 0 : Int32) = bI (chgB v && kindB k && valueB w) from by simp [bI, h9_1]) ?_
    exact hJ32 _ (lv_sub hl [0, 1, 2, 3, 4] rfl)
  · refine lv_iload_n hx hb dX3_turn_12 rfl (lv_at hl 3 rfl) ?_
    refine k_Ri (va_runS (As := [.int k]) (rest := []) hF (c_X3_isKind l k) (va_cwS 1 hts gX3_turn_X3_isKind rfl rfl rfl (by decide +kernel) ⟨(Nat.le_of_ble_eq_true rfl), (Nat.le_of_ble_eq_true rfl)⟩) k_preS rfl rfl hl.1 rfl (lv_room (Nat.le_of_ble_eq_true rfl)) dX3_turn_13 ⟨Nat.zero_le _, Nat.zero_le _⟩) ?_
    refine r_ifeqB (b := kindB k) (tgt := 31) hx hb dX3_turn_16 (by decide) (fun h16_2 => ?_) (fun h16_2 => ?_)
    · refine lv_iconst (v := nI 0) hx hb dX3_turn_31 (by decide) ?_
      refine r_topi (show (nI 0 : Int32) = bI (chgB v && kindB k && valueB w) from by simp [bI, h9_1, h16_2]) ?_
      exact hJ32 _ (lv_sub hl [0, 1, 2, 3, 4] rfl)
    · refine lv_iload hx hb dX3_turn_19 (lv_at hl 4 rfl) ?_
      refine k_Ri (va_runS (As := [.int w]) (rest := []) hF (c_X3_isValue l w) (va_cwS 1 hts gX3_turn_X3_isValue rfl rfl rfl (by decide +kernel) ⟨(Nat.le_of_ble_eq_true rfl), (Nat.le_of_ble_eq_true rfl)⟩) k_preS rfl rfl hl.1 rfl (lv_room (Nat.le_of_ble_eq_true rfl)) dX3_turn_21 ⟨Nat.zero_le _, Nat.zero_le _⟩) ?_
      refine r_ifeqB (b := valueB w) (tgt := 31) hx hb dX3_turn_24 (by decide) (fun h24_3 => ?_) (fun h24_3 => ?_)
      · refine lv_iconst (v := nI 0) hx hb dX3_turn_31 (by decide) ?_
        refine r_topi (show (nI 0 : Int32) = bI (chgB v && kindB k && valueB w) from by simp [bI, h9_1, h16_2, h24_3]) ?_
        exact hJ32 _ (lv_sub hl [0, 1, 2, 3, 4] rfl)
      · refine lv_iconst (v := nI 1) hx hb dX3_turn_27 (by decide) ?_
        refine lv_goto (tgt := 32) hx hb dX3_turn_28 (by decide) ?_
        refine r_topi (show (nI 1 : Int32) = bI (chgB v && kindB k && valueB w) from by simp [bI, h9_1, h16_2, h24_3]) ?_
        exact hJ32 _ (lv_sub hl [0, 1, 2, 3, 4] rfl)
set_option maxHeartbeats 4000000 in
set_option maxRecDepth 100000 in
theorem c_X3_rename_Ta (l : Launch) (D : va_G) (cI : ClassId) (cA : ClassId) (ad : Nat → Nat) (n : Nat) (x : Nat → Nat → Int32) (a : Int32) (v : Int32) (w : Int32) (hlt : l.stackTraces = false) (hca : cardB n a = false) : vx_Met l yX3_rename wsX3_rename ({ frames := 7, cells := 1, slots := 6, locals := 103 }) (va_Pc [.ref (ad 0), .int a, .int v, .int w] (cT D cI cA ad n x)) nQ (xE IOOB) 1 6 nF := by
  refine c_ofT (cc := cX3_rename) (maxL := 5) (by decide) rfl (Nat.le_of_ble_eq_true rfl) ?_
  intro p e s m av below meth cd Q hQ hx hb hF htab hlocks hB ls hl
  obtain ⟨⟨hP, hK, hD, hT⟩, hXF⟩ := hB
  have hown : s.vm.findClass RX3 = some m.cls := hF.2.2.2.1
  have hF : CallFix p m cd cX3_rename 5 s av wsX3_rename RX3 := hF
  have hts := hF.2.2.2.2
  have hl : lv_has ls 5 [(0, .ref (ad 0)), (1, .int a), (2, .int v), (3, .int w)] := hl
  refine lv_aload_n hx hb dX3_rename_0 rfl (lv_at hl 0 rfl) ?_
  refine lv_iload_n hx hb dX3_rename_1 rfl (lv_at hl 1 rfl) ?_
  rw [hQ]
  exact k_To (vx_runV (As := [.int a]) (rest := []) hF (c_X3_checkCard_T l D cI cA ad n x a (by omega) hca) (cwV 1 hts gX3_rename_X3_checkCard rfl rfl rfl (by decide +kernel) ⟨(Nat.le_of_ble_eq_true rfl), (Nat.le_of_ble_eq_true rfl)⟩) (k_preT hP hK hD hT hXF (k := 0) (by decide) cF_0 rfl) rfl rfl hl.1 rfl (lv_room (Nat.le_of_ble_eq_true rfl)) dX3_rename_2 ⟨(Nat.le_of_ble_eq_true rfl), (Nat.le_of_ble_eq_true rfl)⟩) (fun _ _ _ h => h) htab hlocks
set_option maxHeartbeats 4000000 in
set_option maxRecDepth 100000 in
theorem c_X3_rename_Tb (l : Launch) (D : va_G) (cI : ClassId) (cA : ClassId) (ad : Nat → Nat) (n : Nat) (x : Nat → Nat → Int32) (c : Nat) (v : Int32) (w : Int32) (hlt : l.stackTraces = false) (hc : c < n) (hn : n ≤ 24) (hbad : (chgB v && nameB w) = false) : vx_Met l yX3_rename wsX3_rename ({ frames := 7, cells := 1, slots := 6, locals := 102 }) (va_Pc [.ref (ad 0), .int (nI c), .int v, .int w] (cT D cI cA ad n x)) nQ (xE IAE) 1 6 nF := by
  refine c_ofT (cc := cX3_rename) (maxL := 5) (by decide) rfl (Nat.le_of_ble_eq_true rfl) ?_
  intro p e s m av below meth cd Q hQ hx hb hF htab hlocks hB ls hl
  obtain ⟨⟨hP, hK, hD, hT⟩, hXF⟩ := hB
  have hown : s.vm.findClass RX3 = some m.cls := hF.2.2.2.1
  have hF : CallFix p m cd cX3_rename 5 s av wsX3_rename RX3 := hF
  have hts := hF.2.2.2.2
  have hl : lv_has ls 5 [(0, .ref (ad 0)), (1, .int (nI c)), (2, .int v), (3, .int w)] := hl
  refine lv_aload_n hx hb dX3_rename_0 rfl (lv_at hl 0 rfl) ?_
  refine lv_iload_n hx hb dX3_rename_1 rfl (lv_at hl 1 rfl) ?_
  refine k_Rv (va_runV (As := [.int (nI c)]) (rest := []) hF (c_X3_checkCard l D cI cA ad n x c hc hn) (cwV 1 hts gX3_rename_X3_checkCard rfl rfl rfl (by decide +kernel) ⟨(Nat.le_of_ble_eq_true rfl), (Nat.le_of_ble_eq_true rfl)⟩) (k_pre hP hK hD hT (k := 0) (by decide) cF_0 rfl) rfl rfl hl.1 rfl (lv_room (Nat.le_of_ble_eq_true rfl)) dX3_rename_2 ⟨Nat.zero_le _, Nat.zero_le _⟩) ?_
  refine lv_iload_n hx hb dX3_rename_5 rfl (lv_at hl 2 rfl) ?_
  refine k_Ri (va_runS (As := [.int v]) (rest := []) hF (c_X3_isChangeable l v) (va_cwS 1 hts gX3_rename_X3_isChangeable rfl rfl rfl (by decide +kernel) ⟨(Nat.le_of_ble_eq_true rfl), (Nat.le_of_ble_eq_true rfl)⟩) k_preS rfl rfl hl.1 rfl (lv_room (Nat.le_of_ble_eq_true rfl)) dX3_rename_6 ⟨Nat.zero_le _, Nat.zero_le _⟩) ?_
  have hJ24 : ∀ ls : Array Slot, lv_has ls 5 [(0, .ref (ad 0)), (1, .int (nI c)), (2, .int v), (3, .int w)] → W p l e ({ frames := 7, cells := 1, slots := 6, locals := 102 }) s m av below meth cd s.heap [] 0 0 Q (F0 m 24 ls [.int (bI (chgB v && nameB w))]) := by
    intro ls hl
    refine r_topi (show bI (chgB v && nameB w) = bI false from congrArg bI (hbad)) ?_
    rw [hQ]
    exact k_To (vx_runS (As := [.int (bI false)]) (rest := []) hF (c_X3_checkArgument_T l _ (by omega)) (va_cwS 1 hts gX3_rename_X3_checkArgument rfl rfl rfl (by decide +kernel) ⟨(Nat.le_of_ble_eq_true rfl), (Nat.le_of_ble_eq_true rfl)⟩) (k_preX hXF) rfl rfl hl.1 rfl (lv_room (Nat.le_of_ble_eq_true rfl)) dX3_rename_24 ⟨(Nat.le_of_ble_eq_true rfl), (Nat.le_of_ble_eq_true rfl)⟩) (fun _ _ _ h => h) htab hlocks
  refine r_ifeqB (b := chgB v) (tgt := 23) hx hb dX3_rename_9 (by decide) (fun h9_1 => ?_) (fun h9_1 => ?_)
  · refine lv_iconst (v := nI 0) hx hb dX3_rename_23 (by decide) ?_
    refine r_topi (show (nI 0 : Int32) = bI (chgB v && nameB w) from by simp [bI, h9_1]) ?_
    exact hJ24 _ (lv_sub hl [0, 1, 2, 3] rfl)
  · refine lv_iload_n hx hb dX3_rename_12 rfl (lv_at hl 3 rfl) ?_
    refine k_Ri (va_runS (As := [.int w]) (rest := []) hF (c_X3_isName l w) (va_cwS 1 hts gX3_rename_X3_isName rfl rfl rfl (by decide +kernel) ⟨(Nat.le_of_ble_eq_true rfl), (Nat.le_of_ble_eq_true rfl)⟩) k_preS rfl rfl hl.1 rfl (lv_room (Nat.le_of_ble_eq_true rfl)) dX3_rename_13 ⟨Nat.zero_le _, Nat.zero_le _⟩) ?_
    refine r_ifeqB (b := nameB w) (tgt := 23) hx hb dX3_rename_16 (by decide) (fun h16_2 => ?_) (fun h16_2 => ?_)
    · refine lv_iconst (v := nI 0) hx hb dX3_rename_23 (by decide) ?_
      refine r_topi (show (nI 0 : Int32) = bI (chgB v && nameB w) from by simp [bI, h9_1, h16_2]) ?_
      exact hJ24 _ (lv_sub hl [0, 1, 2, 3] rfl)
    · refine lv_iconst (v := nI 1) hx hb dX3_rename_19 (by decide) ?_
      refine lv_goto (tgt := 24) hx hb dX3_rename_20 (by decide) ?_
      refine r_topi (show (nI 1 : Int32) = bI (chgB v && nameB w) from by simp [bI, h9_1, h16_2]) ?_
      exact hJ24 _ (lv_sub hl [0, 1, 2, 3] rfl)
set_option maxHeartbeats 4000000 in
set_option maxRecDepth 100000 in
theorem c_X3_sync_Ta (l : Launch) (D : va_G) (cI : ClassId) (cA : ClassId) (ad : Nat → Nat) (n : Nat) (x : Nat → Nat → Int32) (b : Int32) (hlt : l.stackTraces = false) (hbk : bookB b = false) : vx_Met l yX3_sync wsX3_sync ({ frames := 7, cells := 1, slots := 6, locals := 103 }) (va_Pc [.ref (ad 0), .int b] (cT D cI cA ad n x)) nQ (xE IOOB) 1 6 nF := by
  refine c_ofT (cc := cX3_sync) (maxL := 4) (by decide) rfl (Nat.le_of_ble_eq_true rfl) ?_
  intro p e s m av below meth cd Q hQ hx hb hF htab hlocks hB ls hl
  obtain ⟨⟨hP, hK, hD, hT⟩, hXF⟩ := hB
  have hown : s.vm.findClass RX3 = some m.cls := hF.2.2.2.1
  have hF : CallFix p m cd cX3_sync 4 s av wsX3_sync RX3 := hF
  have hts := hF.2.2.2.2
  have hl : lv_has ls 4 [(0, .ref (ad 0)), (1, .int b)] := hl
  refine lv_aload_n hx hb dX3_sync_0 rfl (lv_at hl 0 rfl) ?_
  refine lv_iload_n hx hb dX3_sync_1 rfl (lv_at hl 1 rfl) ?_
  rw [hQ]
  exact k_To (vx_runV (As := [.int b]) (rest := []) hF (c_X3_checkBook_T l D cI cA ad n x b (by omega) hbk) (cwV 1 hts gX3_sync_X3_checkBook rfl rfl rfl (by decide +kernel) ⟨(Nat.le_of_ble_eq_true rfl), (Nat.le_of_ble_eq_true rfl)⟩) (k_preT hP hK hD hT hXF (k := 0) (by decide) cF_0 rfl) rfl rfl hl.1 rfl (lv_room (Nat.le_of_ble_eq_true rfl)) dX3_sync_2 ⟨(Nat.le_of_ble_eq_true rfl), (Nat.le_of_ble_eq_true rfl)⟩) (fun _ _ _ h => h) htab hlocks
set_option maxHeartbeats 4000000 in
set_option maxRecDepth 100000 in
theorem c_X3_values_Ta (l : Launch) (D : va_G) (cI : ClassId) (cA : ClassId) (ad : Nat → Nat) (n : Nat) (x : Nat → Nat → Int32) (a : Int32) (v : Int32) (k : Int32) (hlt : l.stackTraces = false) (hca : cardB n a = false) : vx_Met l yX3_values wsX3_values ({ frames := 7, cells := 1, slots := 6, locals := 103 }) (va_Pc [.ref (ad 0), .int a, .int v, .int k] (cT D cI cA ad n x)) nQ (xE IOOB) 1 6 nF := by
  refine c_ofT (cc := cX3_values) (maxL := 4) (by decide) rfl (Nat.le_of_ble_eq_true rfl) ?_
  intro p e s m av below meth cd Q hQ hx hb hF htab hlocks hB ls hl
  obtain ⟨⟨hP, hK, hD, hT⟩, hXF⟩ := hB
  have hown : s.vm.findClass RX3 = some m.cls := hF.2.2.2.1
  have hF : CallFix p m cd cX3_values 4 s av wsX3_values RX3 := hF
  have hts := hF.2.2.2.2
  have hl : lv_has ls 4 [(0, .ref (ad 0)), (1, .int a), (2, .int v), (3, .int k)] := hl
  refine lv_aload_n hx hb dX3_values_0 rfl (lv_at hl 0 rfl) ?_
  refine lv_iload_n hx hb dX3_values_1 rfl (lv_at hl 1 rfl) ?_
  rw [hQ]
  exact k_To (vx_runV (As := [.int a]) (rest := []) hF (c_X3_checkCard_T l D cI cA ad n x a (by omega) hca) (cwV 1 hts gX3_values_X3_checkCard rfl rfl rfl (by decide +kernel) ⟨(Nat.le_of_ble_eq_true rfl), (Nat.le_of_ble_eq_true rfl)⟩) (k_preT hP hK hD hT hXF (k := 0) (by decide) cF_0 rfl) rfl rfl hl.1 rfl (lv_room (Nat.le_of_ble_eq_true rfl)) dX3_values_2 ⟨(Nat.le_of_ble_eq_true rfl), (Nat.le_of_ble_eq_true rfl)⟩) (fun _ _ _ h => h) htab hlocks
set_option maxHeartbeats 4000000 in
set_option maxRecDepth 100000 in
theorem c_X3_values_Tb (l : Launch) (D : va_G) (cI : ClassId) (cA : ClassId) (ad : Nat → Nat) (n : Nat) (x : Nat → Nat → Int32) (c : Nat) (v : Int32) (k : Int32) (hlt : l.stackTraces = false) (hc : c < n) (hn : n ≤ 24) (hbad : (verB v && kindB k) = false) : vx_Met l yX3_values wsX3_values ({ frames := 7, cells := 1, slots := 6, locals := 102 }) (va_Pc [.ref (ad 0), .int (nI c), .int v, .int k] (cT D cI cA ad n x)) nQ (xE IAE) 1 6 nF := by
  refine c_ofT (cc := cX3_values) (maxL := 4) (by decide) rfl (Nat.le_of_ble_eq_true rfl) ?_
  intro p e s m av below meth cd Q hQ hx hb hF htab hlocks hB ls hl
  obtain ⟨⟨hP, hK, hD, hT⟩, hXF⟩ := hB
  have hown : s.vm.findClass RX3 = some m.cls := hF.2.2.2.1
  have hF : CallFix p m cd cX3_values 4 s av wsX3_values RX3 := hF
  have hts := hF.2.2.2.2
  have hl : lv_has ls 4 [(0, .ref (ad 0)), (1, .int (nI c)), (2, .int v), (3, .int k)] := hl
  refine lv_aload_n hx hb dX3_values_0 rfl (lv_at hl 0 rfl) ?_
  refine lv_iload_n hx hb dX3_values_1 rfl (lv_at hl 1 rfl) ?_
  refine k_Rv (va_runV (As := [.int (nI c)]) (rest := []) hF (c_X3_checkCard l D cI cA ad n x c hc hn) (cwV 1 hts gX3_values_X3_checkCard rfl rfl rfl (by decide +kernel) ⟨(Nat.le_of_ble_eq_true rfl), (Nat.le_of_ble_eq_true rfl)⟩) (k_pre hP hK hD hT (k := 0) (by decide) cF_0 rfl) rfl rfl hl.1 rfl (lv_room (Nat.le_of_ble_eq_true rfl)) dX3_values_2 ⟨Nat.zero_le _, Nat.zero_le _⟩) ?_
  refine lv_iload_n hx hb dX3_values_5 rfl (lv_at hl 2 rfl) ?_
  refine k_Ri (va_runS (As := [.int v]) (rest := []) hF (c_X3_isVersion l v) (va_cwS 1 hts gX3_values_X3_isVersion rfl rfl rfl (by decide +kernel) ⟨(Nat.le_of_ble_eq_true rfl), (Nat.le_of_ble_eq_true rfl)⟩) k_preS rfl rfl hl.1 rfl (lv_room (Nat.le_of_ble_eq_true rfl)) dX3_values_6 ⟨Nat.zero_le _, Nat.zero_le _⟩) ?_
  have hJ24 : ∀ ls : Array Slot, lv_has ls 4 [(0, .ref (ad 0)), (1, .int (nI c)), (2, .int v), (3, .int k)] → W p l e ({ frames := 7, cells := 1, slots := 6, locals := 102 }) s m av below meth cd s.heap [] 0 0 Q (F0 m 24 ls [.int (bI (verB v && kindB k))]) := by
    intro ls hl
    refine r_topi (show bI (verB v && kindB k) = bI false from congrArg bI (hbad)) ?_
    rw [hQ]
    exact k_To (vx_runS (As := [.int (bI false)]) (rest := []) hF (c_X3_checkArgument_T l _ (by omega)) (va_cwS 1 hts gX3_values_X3_checkArgument rfl rfl rfl (by decide +kernel) ⟨(Nat.le_of_ble_eq_true rfl), (Nat.le_of_ble_eq_true rfl)⟩) (k_preX hXF) rfl rfl hl.1 rfl (lv_room (Nat.le_of_ble_eq_true rfl)) dX3_values_24 ⟨(Nat.le_of_ble_eq_true rfl), (Nat.le_of_ble_eq_true rfl)⟩) (fun _ _ _ h => h) htab hlocks
  refine r_ifeqB (b := verB v) (tgt := 23) hx hb dX3_values_9 (by decide) (fun h9_1 => ?_) (fun h9_1 => ?_)
  · refine lv_iconst (v := nI 0) hx hb dX3_values_23 (by decide) ?_
    refine r_topi (show (nI 0 : Int32) = bI (verB v && kindB k) from by simp [bI, h9_1]) ?_
    exact hJ24 _ (lv_sub hl [0, 1, 2, 3] rfl)
  · refine lv_iload_n hx hb dX3_values_12 rfl (lv_at hl 3 rfl) ?_
    refine k_Ri (va_runS (As := [.int k]) (rest := []) hF (c_X3_isKind l k) (va_cwS 1 hts gX3_values_X3_isKind rfl rfl rfl (by decide +kernel) ⟨(Nat.le_of_ble_eq_true rfl), (Nat.le_of_ble_eq_true rfl)⟩) k_preS rfl rfl hl.1 rfl (lv_room (Nat.le_of_ble_eq_true rfl)) dX3_values_13 ⟨Nat.zero_le _, Nat.zero_le _⟩) ?_
    refine r_ifeqB (b := kindB k) (tgt := 23) hx hb dX3_values_16 (by decide) (fun h16_2 => ?_) (fun h16_2 => ?_)
    · refine lv_iconst (v := nI 0) hx hb dX3_values_23 (by decide) ?_
      refine r_topi (show (nI 0 : Int32) = bI (verB v && kindB k) from by simp [bI, h9_1, h16_2]) ?_
      exact hJ24 _ (lv_sub hl [0, 1, 2, 3] rfl)
    · refine lv_iconst (v := nI 1) hx hb dX3_values_19 (by decide) ?_
      refine lv_goto (tgt := 24) hx hb dX3_values_20 (by decide) ?_
      refine r_topi (show (nI 1 : Int32) = bI (verB v && kindB k) from by simp [bI, h9_1, h16_2]) ?_
      exact hJ24 _ (lv_sub hl [0, 1, 2, 3] rfl)
set_option maxHeartbeats 4000000 in
set_option maxRecDepth 100000 in
theorem c_X3_nameOf_Ta (l : Launch) (D : va_G) (cI : ClassId) (cA : ClassId) (ad : Nat → Nat) (n : Nat) (x : Nat → Nat → Int32) (a : Int32) (v : Int32) (hlt : l.stackTraces = false) (hca : cardB n a = false) : vx_Met l yX3_nameOf wsX3_nameOf ({ frames := 7, cells := 1, slots := 6, locals := 103 }) (va_Pc [.ref (ad 0), .int a, .int v] (cT D cI cA ad n x)) nQ (xE IOOB) 1 6 nF := by
  refine c_ofT (cc := cX3_nameOf) (maxL := 3) (by decide) rfl (Nat.le_of_ble_eq_true rfl) ?_
  intro p e s m av below meth cd Q hQ hx hb hF htab hlocks hB ls hl
  obtain ⟨⟨hP, hK, hD, hT⟩, hXF⟩ := hB
  have hown : s.vm.findClass RX3 = some m.cls := hF.2.2.2.1
  have hF : CallFix p m cd cX3_nameOf 3 s av wsX3_nameOf RX3 := hF
  have hts := hF.2.2.2.2
  have hl : lv_has ls 3 [(0, .ref (ad 0)), (1, .int a), (2, .int v)] := hl
  refine lv_aload_n hx hb dX3_nameOf_0 rfl (lv_at hl 0 rfl) ?_
  refine lv_iload_n hx hb dX3_nameOf_1 rfl (lv_at hl 1 rfl) ?_
  rw [hQ]
  exact k_To (vx_runV (As := [.int a]) (rest := []) hF (c_X3_checkCard_T l D cI cA ad n x a (by omega) hca) (cwV 1 hts gX3_nameOf_X3_checkCard rfl rfl rfl (by decide +kernel) ⟨(Nat.le_of_ble_eq_true rfl), (Nat.le_of_ble_eq_true rfl)⟩) (k_preT hP hK hD hT hXF (k := 0) (by decide) cF_0 rfl) rfl rfl hl.1 rfl (lv_room (Nat.le_of_ble_eq_true rfl)) dX3_nameOf_2 ⟨(Nat.le_of_ble_eq_true rfl), (Nat.le_of_ble_eq_true rfl)⟩) (fun _ _ _ h => h) htab hlocks
set_option maxHeartbeats 4000000 in
set_option maxRecDepth 100000 in
theorem c_X3_nameOf_Tb (l : Launch) (D : va_G) (cI : ClassId) (cA : ClassId) (ad : Nat → Nat) (n : Nat) (x : Nat → Nat → Int32) (c : Nat) (v : Int32) (hlt : l.stackTraces = false) (hc : c < n) (hn : n ≤ 24) (hbad : (verB v) = false) : vx_Met l yX3_nameOf wsX3_nameOf ({ frames := 7, cells := 1, slots := 6, locals := 102 }) (va_Pc [.ref (ad 0), .int (nI c), .int v] (cT D cI cA ad n x)) nQ (xE IAE) 1 6 nF := by
  refine c_ofT (cc := cX3_nameOf) (maxL := 3) (by decide) rfl (Nat.le_of_ble_eq_true rfl) ?_
  intro p e s m av below meth cd Q hQ hx hb hF htab hlocks hB ls hl
  obtain ⟨⟨hP, hK, hD, hT⟩, hXF⟩ := hB
  have hown : s.vm.findClass RX3 = some m.cls := hF.2.2.2.1
  have hF : CallFix p m cd cX3_nameOf 3 s av wsX3_nameOf RX3 := hF
  have hts := hF.2.2.2.2
  have hl : lv_has ls 3 [(0, .ref (ad 0)), (1, .int (nI c)), (2, .int v)] := hl
  refine lv_aload_n hx hb dX3_nameOf_0 rfl (lv_at hl 0 rfl) ?_
  refine lv_iload_n hx hb dX3_nameOf_1 rfl (lv_at hl 1 rfl) ?_
  refine k_Rv (va_runV (As := [.int (nI c)]) (rest := []) hF (c_X3_checkCard l D cI cA ad n x c hc hn) (cwV 1 hts gX3_nameOf_X3_checkCard rfl rfl rfl (by decide +kernel) ⟨(Nat.le_of_ble_eq_true rfl), (Nat.le_of_ble_eq_true rfl)⟩) (k_pre hP hK hD hT (k := 0) (by decide) cF_0 rfl) rfl rfl hl.1 rfl (lv_room (Nat.le_of_ble_eq_true rfl)) dX3_nameOf_2 ⟨Nat.zero_le _, Nat.zero_le _⟩) ?_
  refine lv_iload_n hx hb dX3_nameOf_5 rfl (lv_at hl 2 rfl) ?_
  refine k_Ri (va_runS (As := [.int v]) (rest := []) hF (c_X3_isVersion l v) (va_cwS 1 hts gX3_nameOf_X3_isVersion rfl rfl rfl (by decide +kernel) ⟨(Nat.le_of_ble_eq_true rfl), (Nat.le_of_ble_eq_true rfl)⟩) k_preS rfl rfl hl.1 rfl (lv_room (Nat.le_of_ble_eq_true rfl)) dX3_nameOf_6 ⟨Nat.zero_le _, Nat.zero_le _⟩) ?_
  refine r_topi (show bI (verB v) = bI false from congrArg bI (hbad)) ?_
  rw [hQ]
  exact k_To (vx_runS (As := [.int (bI false)]) (rest := []) hF (c_X3_checkArgument_T l _ (by omega)) (va_cwS 1 hts gX3_nameOf_X3_checkArgument rfl rfl rfl (by decide +kernel) ⟨(Nat.le_of_ble_eq_true rfl), (Nat.le_of_ble_eq_true rfl)⟩) (k_preX hXF) rfl rfl hl.1 rfl (lv_room (Nat.le_of_ble_eq_true rfl)) dX3_nameOf_9 ⟨(Nat.le_of_ble_eq_true rfl), (Nat.le_of_ble_eq_true rfl)⟩) (fun _ _ _ h => h) htab hlocks
set_option maxHeartbeats 4000000 in
set_option maxRecDepth 100000 in
theorem c_X3_merged_Ta (l : Launch) (D : va_G) (cI : ClassId) (cA : ClassId) (ad : Nat → Nat) (n : Nat) (x : Nat → Nat → Int32) (a : Int32) (k : Int32) (hlt : l.stackTraces = false) (hca : cardB n a = false) : vx_Met l yX3_merged wsX3_merged ({ frames := 7, cells := 1, slots := 6, locals := 103 }) (va_Pc [.ref (ad 0), .int a, .int k] (cT D cI cA ad n x)) nQ (xE IOOB) 1 6 nF := by
  refine c_ofT (cc := cX3_merged) (maxL := 3) (by decide) rfl (Nat.le_of_ble_eq_true rfl) ?_
  intro p e s m av below meth cd Q hQ hx hb hF htab hlocks hB ls hl
  obtain ⟨⟨hP, hK, hD, hT⟩, hXF⟩ := hB
  have hown : s.vm.findClass RX3 = some m.cls := hF.2.2.2.1
  have hF : CallFix p m cd cX3_merged 3 s av wsX3_merged RX3 := hF
  have hts := hF.2.2.2.2
  have hl : lv_has ls 3 [(0, .ref (ad 0)), (1, .int a), (2, .int k)] := hl
  refine lv_aload_n hx hb dX3_merged_0 rfl (lv_at hl 0 rfl) ?_
  refine lv_iload_n hx hb dX3_merged_1 rfl (lv_at hl 1 rfl) ?_
  rw [hQ]
  exact k_To (vx_runV (As := [.int a]) (rest := []) hF (c_X3_checkCard_T l D cI cA ad n x a (by omega) hca) (cwV 1 hts gX3_merged_X3_checkCard rfl rfl rfl (by decide +kernel) ⟨(Nat.le_of_ble_eq_true rfl), (Nat.le_of_ble_eq_true rfl)⟩) (k_preT hP hK hD hT hXF (k := 0) (by decide) cF_0 rfl) rfl rfl hl.1 rfl (lv_room (Nat.le_of_ble_eq_true rfl)) dX3_merged_2 ⟨(Nat.le_of_ble_eq_true rfl), (Nat.le_of_ble_eq_true rfl)⟩) (fun _ _ _ h => h) htab hlocks
set_option maxHeartbeats 4000000 in
set_option maxRecDepth 100000 in
theorem c_X3_merged_Tb (l : Launch) (D : va_G) (cI : ClassId) (cA : ClassId) (ad : Nat → Nat) (n : Nat) (x : Nat → Nat → Int32) (c : Nat) (k : Int32) (hlt : l.stackTraces = false) (hc : c < n) (hn : n ≤ 24) (hbad : (kindB k) = false) : vx_Met l yX3_merged wsX3_merged ({ frames := 7, cells := 1, slots := 6, locals := 102 }) (va_Pc [.ref (ad 0), .int (nI c), .int k] (cT D cI cA ad n x)) nQ (xE IAE) 1 6 nF := by
  refine c_ofT (cc := cX3_merged) (maxL := 3) (by decide) rfl (Nat.le_of_ble_eq_true rfl) ?_
  intro p e s m av below meth cd Q hQ hx hb hF htab hlocks hB ls hl
  obtain ⟨⟨hP, hK, hD, hT⟩, hXF⟩ := hB
  have hown : s.vm.findClass RX3 = some m.cls := hF.2.2.2.1
  have hF : CallFix p m cd cX3_merged 3 s av wsX3_merged RX3 := hF
  have hts := hF.2.2.2.2
  have hl : lv_has ls 3 [(0, .ref (ad 0)), (1, .int (nI c)), (2, .int k)] := hl
  refine lv_aload_n hx hb dX3_merged_0 rfl (lv_at hl 0 rfl) ?_
  refine lv_iload_n hx hb dX3_merged_1 rfl (lv_at hl 1 rfl) ?_
  refine k_Rv (va_runV (As := [.int (nI c)]) (rest := []) hF (c_X3_checkCard l D cI cA ad n x c hc hn) (cwV 1 hts gX3_merged_X3_checkCard rfl rfl rfl (by decide +kernel) ⟨(Nat.le_of_ble_eq_true rfl), (Nat.le_of_ble_eq_true rfl)⟩) (k_pre hP hK hD hT (k := 0) (by decide) cF_0 rfl) rfl rfl hl.1 rfl (lv_room (Nat.le_of_ble_eq_true rfl)) dX3_merged_2 ⟨Nat.zero_le _, Nat.zero_le _⟩) ?_
  refine lv_iload_n hx hb dX3_merged_5 rfl (lv_at hl 2 rfl) ?_
  refine k_Ri (va_runS (As := [.int k]) (rest := []) hF (c_X3_isKind l k) (va_cwS 1 hts gX3_merged_X3_isKind rfl rfl rfl (by decide +kernel) ⟨(Nat.le_of_ble_eq_true rfl), (Nat.le_of_ble_eq_true rfl)⟩) k_preS rfl rfl hl.1 rfl (lv_room (Nat.le_of_ble_eq_true rfl)) dX3_merged_6 ⟨Nat.zero_le _, Nat.zero_le _⟩) ?_
  refine r_topi (show bI (kindB k) = bI false from congrArg bI (hbad)) ?_
  rw [hQ]
  exact k_To (vx_runS (As := [.int (bI false)]) (rest := []) hF (c_X3_checkArgument_T l _ (by omega)) (va_cwS 1 hts gX3_merged_X3_checkArgument rfl rfl rfl (by decide +kernel) ⟨(Nat.le_of_ble_eq_true rfl), (Nat.le_of_ble_eq_true rfl)⟩) (k_preX hXF) rfl rfl hl.1 rfl (lv_room (Nat.le_of_ble_eq_true rfl)) dX3_merged_9 ⟨(Nat.le_of_ble_eq_true rfl), (Nat.le_of_ble_eq_true rfl)⟩) (fun _ _ _ h => h) htab hlocks
set_option maxHeartbeats 4000000 in
set_option maxRecDepth 100000 in
theorem c_X3_mergedByValues_Ta (l : Launch) (D : va_G) (cI : ClassId) (cA : ClassId) (ad : Nat → Nat) (n : Nat) (x : Nat → Nat → Int32) (a : Int32) (k : Int32) (hlt : l.stackTraces = false) (hca : cardB n a = false) : vx_Met l yX3_mergedByValues wsX3_mergedByValues ({ frames := 7, cells := 1, slots := 6, locals := 103 }) (va_Pc [.ref (ad 0), .int a, .int k] (cT D cI cA ad n x)) nQ (xE IOOB) 1 6 nF := by
  refine c_ofT (cc := cX3_mergedByValues) (maxL := 3) (by decide) rfl (Nat.le_of_ble_eq_true rfl) ?_
  intro p e s m av below meth cd Q hQ hx hb hF htab hlocks hB ls hl
  obtain ⟨⟨hP, hK, hD, hT⟩, hXF⟩ := hB
  have hown : s.vm.findClass RX3 = some m.cls := hF.2.2.2.1
  have hF : CallFix p m cd cX3_mergedByValues 3 s av wsX3_mergedByValues RX3 := hF
  have hts := hF.2.2.2.2
  have hl : lv_has ls 3 [(0, .ref (ad 0)), (1, .int a), (2, .int k)] := hl
  refine lv_aload_n hx hb dX3_mergedByValues_0 rfl (lv_at hl 0 rfl) ?_
  refine lv_iload_n hx hb dX3_mergedByValues_1 rfl (lv_at hl 1 rfl) ?_
  rw [hQ]
  exact k_To (vx_runV (As := [.int a]) (rest := []) hF (c_X3_checkCard_T l D cI cA ad n x a (by omega) hca) (cwV 1 hts gX3_mergedByValues_X3_checkCard rfl rfl rfl (by decide +kernel) ⟨(Nat.le_of_ble_eq_true rfl), (Nat.le_of_ble_eq_true rfl)⟩) (k_preT hP hK hD hT hXF (k := 0) (by decide) cF_0 rfl) rfl rfl hl.1 rfl (lv_room (Nat.le_of_ble_eq_true rfl)) dX3_mergedByValues_2 ⟨(Nat.le_of_ble_eq_true rfl), (Nat.le_of_ble_eq_true rfl)⟩) (fun _ _ _ h => h) htab hlocks
set_option maxHeartbeats 4000000 in
set_option maxRecDepth 100000 in
theorem c_X3_mergedByValues_Tb (l : Launch) (D : va_G) (cI : ClassId) (cA : ClassId) (ad : Nat → Nat) (n : Nat) (x : Nat → Nat → Int32) (c : Nat) (k : Int32) (hlt : l.stackTraces = false) (hc : c < n) (hn : n ≤ 24) (hbad : (kindB k) = false) : vx_Met l yX3_mergedByValues wsX3_mergedByValues ({ frames := 7, cells := 1, slots := 6, locals := 102 }) (va_Pc [.ref (ad 0), .int (nI c), .int k] (cT D cI cA ad n x)) nQ (xE IAE) 1 6 nF := by
  refine c_ofT (cc := cX3_mergedByValues) (maxL := 3) (by decide) rfl (Nat.le_of_ble_eq_true rfl) ?_
  intro p e s m av below meth cd Q hQ hx hb hF htab hlocks hB ls hl
  obtain ⟨⟨hP, hK, hD, hT⟩, hXF⟩ := hB
  have hown : s.vm.findClass RX3 = some m.cls := hF.2.2.2.1
  have hF : CallFix p m cd cX3_mergedByValues 3 s av wsX3_mergedByValues RX3 := hF
  have hts := hF.2.2.2.2
  have hl : lv_has ls 3 [(0, .ref (ad 0)), (1, .int (nI c)), (2, .int k)] := hl
  refine lv_aload_n hx hb dX3_mergedByValues_0 rfl (lv_at hl 0 rfl) ?_
  refine lv_iload_n hx hb dX3_mergedByValues_1 rfl (lv_at hl 1 rfl) ?_
  refine k_Rv (va_runV (As := [.int (nI c)]) (rest := []) hF (c_X3_checkCard l D cI cA ad n x c hc hn) (cwV 1 hts gX3_mergedByValues_X3_checkCard rfl rfl rfl (by decide +kernel) ⟨(Nat.le_of_ble_eq_true rfl), (Nat.le_of_ble_eq_true rfl)⟩) (k_pre hP hK hD hT (k := 0) (by decide) cF_0 rfl) rfl rfl hl.1 rfl (lv_room (Nat.le_of_ble_eq_true rfl)) dX3_mergedByValues_2 ⟨Nat.zero_le _, Nat.zero_le _⟩) ?_
  refine lv_iload_n hx hb dX3_mergedByValues_5 rfl (lv_at hl 2 rfl) ?_
  refine k_Ri (va_runS (As := [.int k]) (rest := []) hF (c_X3_isKind l k) (va_cwS 1 hts gX3_mergedByValues_X3_isKind rfl rfl rfl (by decide +kernel) ⟨(Nat.le_of_ble_eq_true rfl), (Nat.le_of_ble_eq_true rfl)⟩) k_preS rfl rfl hl.1 rfl (lv_room (Nat.le_of_ble_eq_true rfl)) dX3_mergedByValues_6 ⟨Nat.zero_le _, Nat.zero_le _⟩) ?_
  refine r_topi (show bI (kindB k) = bI false from congrArg bI (hbad)) ?_
  rw [hQ]
  exact k_To (vx_runS (As := [.int (bI false)]) (rest := []) hF (c_X3_checkArgument_T l _ (by omega)) (va_cwS 1 hts gX3_mergedByValues_X3_checkArgument rfl rfl rfl (by decide +kernel) ⟨(Nat.le_of_ble_eq_true rfl), (Nat.le_of_ble_eq_true rfl)⟩) (k_preX hXF) rfl rfl hl.1 rfl (lv_room (Nat.le_of_ble_eq_true rfl)) dX3_mergedByValues_9 ⟨(Nat.le_of_ble_eq_true rfl), (Nat.le_of_ble_eq_true rfl)⟩) (fun _ _ _ h => h) htab hlocks
set_option maxHeartbeats 4000000 in
set_option maxRecDepth 100000 in
theorem c_X3_shown_Ta (l : Launch) (D : va_G) (cI : ClassId) (cA : ClassId) (ad : Nat → Nat) (n : Nat) (x : Nat → Nat → Int32) (a : Int32) (k : Int32) (hlt : l.stackTraces = false) (hca : cardB n a = false) : vx_Met l yX3_shown wsX3_shown ({ frames := 7, cells := 1, slots := 6, locals := 103 }) (va_Pc [.ref (ad 0), .int a, .int k] (cT D cI cA ad n x)) nQ (xE IOOB) 1 6 nF := by
  refine c_ofT (cc := cX3_shown) (maxL := 3) (by decide) rfl (Nat.le_of_ble_eq_true rfl) ?_
  intro p e s m av below meth cd Q hQ hx hb hF htab hlocks hB ls hl
  obtain ⟨⟨hP, hK, hD, hT⟩, hXF⟩ := hB
  have hown : s.vm.findClass RX3 = some m.cls := hF.2.2.2.1
  have hF : CallFix p m cd cX3_shown 3 s av wsX3_shown RX3 := hF
  have hts := hF.2.2.2.2
  have hl : lv_has ls 3 [(0, .ref (ad 0)), (1, .int a), (2, .int k)] := hl
  refine lv_aload_n hx hb dX3_shown_0 rfl (lv_at hl 0 rfl) ?_
  refine lv_iload_n hx hb dX3_shown_1 rfl (lv_at hl 1 rfl) ?_
  rw [hQ]
  exact k_To (vx_runV (As := [.int a]) (rest := []) hF (c_X3_checkCard_T l D cI cA ad n x a (by omega) hca) (cwV 1 hts gX3_shown_X3_checkCard rfl rfl rfl (by decide +kernel) ⟨(Nat.le_of_ble_eq_true rfl), (Nat.le_of_ble_eq_true rfl)⟩) (k_preT hP hK hD hT hXF (k := 0) (by decide) cF_0 rfl) rfl rfl hl.1 rfl (lv_room (Nat.le_of_ble_eq_true rfl)) dX3_shown_2 ⟨(Nat.le_of_ble_eq_true rfl), (Nat.le_of_ble_eq_true rfl)⟩) (fun _ _ _ h => h) htab hlocks
set_option maxHeartbeats 4000000 in
set_option maxRecDepth 100000 in
theorem c_X3_shown_Tb (l : Launch) (D : va_G) (cI : ClassId) (cA : ClassId) (ad : Nat → Nat) (n : Nat) (x : Nat → Nat → Int32) (c : Nat) (k : Int32) (hlt : l.stackTraces = false) (hc : c < n) (hn : n ≤ 24) (hbad : (kindB k) = false) : vx_Met l yX3_shown wsX3_shown ({ frames := 7, cells := 1, slots := 6, locals := 102 }) (va_Pc [.ref (ad 0), .int (nI c), .int k] (cT D cI cA ad n x)) nQ (xE IAE) 1 6 nF := by
  refine c_ofT (cc := cX3_shown) (maxL := 3) (by decide) rfl (Nat.le_of_ble_eq_true rfl) ?_
  intro p e s m av below meth cd Q hQ hx hb hF htab hlocks hB ls hl
  obtain ⟨⟨hP, hK, hD, hT⟩, hXF⟩ := hB
  have hown : s.vm.findClass RX3 = some m.cls := hF.2.2.2.1
  have hF : CallFix p m cd cX3_shown 3 s av wsX3_shown RX3 := hF
  have hts := hF.2.2.2.2
  have hl : lv_has ls 3 [(0, .ref (ad 0)), (1, .int (nI c)), (2, .int k)] := hl
  refine lv_aload_n hx hb dX3_shown_0 rfl (lv_at hl 0 rfl) ?_
  refine lv_iload_n hx hb dX3_shown_1 rfl (lv_at hl 1 rfl) ?_
  refine k_Rv (va_runV (As := [.int (nI c)]) (rest := []) hF (c_X3_checkCard l D cI cA ad n x c hc hn) (cwV 1 hts gX3_shown_X3_checkCard rfl rfl rfl (by decide +kernel) ⟨(Nat.le_of_ble_eq_true rfl), (Nat.le_of_ble_eq_true rfl)⟩) (k_pre hP hK hD hT (k := 0) (by decide) cF_0 rfl) rfl rfl hl.1 rfl (lv_room (Nat.le_of_ble_eq_true rfl)) dX3_shown_2 ⟨Nat.zero_le _, Nat.zero_le _⟩) ?_
  refine lv_iload_n hx hb dX3_shown_5 rfl (lv_at hl 2 rfl) ?_
  refine k_Ri (va_runS (As := [.int k]) (rest := []) hF (c_X3_isKind l k) (va_cwS 1 hts gX3_shown_X3_isKind rfl rfl rfl (by decide +kernel) ⟨(Nat.le_of_ble_eq_true rfl), (Nat.le_of_ble_eq_true rfl)⟩) k_preS rfl rfl hl.1 rfl (lv_room (Nat.le_of_ble_eq_true rfl)) dX3_shown_6 ⟨Nat.zero_le _, Nat.zero_le _⟩) ?_
  refine r_topi (show bI (kindB k) = bI false from congrArg bI (hbad)) ?_
  rw [hQ]
  exact k_To (vx_runS (As := [.int (bI false)]) (rest := []) hF (c_X3_checkArgument_T l _ (by omega)) (va_cwS 1 hts gX3_shown_X3_checkArgument rfl rfl rfl (by decide +kernel) ⟨(Nat.le_of_ble_eq_true rfl), (Nat.le_of_ble_eq_true rfl)⟩) (k_preX hXF) rfl rfl hl.1 rfl (lv_room (Nat.le_of_ble_eq_true rfl)) dX3_shown_9 ⟨(Nat.le_of_ble_eq_true rfl), (Nat.le_of_ble_eq_true rfl)⟩) (fun _ _ _ h => h) htab hlocks
set_option maxHeartbeats 4000000 in
set_option maxRecDepth 100000 in
theorem c_X3_unsynced_Ta (l : Launch) (D : va_G) (cI : ClassId) (cA : ClassId) (ad : Nat → Nat) (n : Nat) (x : Nat → Nat → Int32) (b : Int32) (hlt : l.stackTraces = false) (hbk : bookB b = false) : vx_Met l yX3_unsynced wsX3_unsynced ({ frames := 7, cells := 1, slots := 6, locals := 103 }) (va_Pc [.ref (ad 0), .int b] (cT D cI cA ad n x)) nQ (xE IOOB) 1 6 nF := by
  refine c_ofT (cc := cX3_unsynced) (maxL := 4) (by decide) rfl (Nat.le_of_ble_eq_true rfl) ?_
  intro p e s m av below meth cd Q hQ hx hb hF htab hlocks hB ls hl
  obtain ⟨⟨hP, hK, hD, hT⟩, hXF⟩ := hB
  have hown : s.vm.findClass RX3 = some m.cls := hF.2.2.2.1
  have hF : CallFix p m cd cX3_unsynced 4 s av wsX3_unsynced RX3 := hF
  have hts := hF.2.2.2.2
  have hl : lv_has ls 4 [(0, .ref (ad 0)), (1, .int b)] := hl
  refine lv_aload_n hx hb dX3_unsynced_0 rfl (lv_at hl 0 rfl) ?_
  refine lv_iload_n hx hb dX3_unsynced_1 rfl (lv_at hl 1 rfl) ?_
  rw [hQ]
  exact k_To (vx_runV (As := [.int b]) (rest := []) hF (c_X3_checkBook_T l D cI cA ad n x b (by omega) hbk) (cwV 1 hts gX3_unsynced_X3_checkBook rfl rfl rfl (by decide +kernel) ⟨(Nat.le_of_ble_eq_true rfl), (Nat.le_of_ble_eq_true rfl)⟩) (k_preT hP hK hD hT hXF (k := 0) (by decide) cF_0 rfl) rfl rfl hl.1 rfl (lv_room (Nat.le_of_ble_eq_true rfl)) dX3_unsynced_2 ⟨(Nat.le_of_ble_eq_true rfl), (Nat.le_of_ble_eq_true rfl)⟩) (fun _ _ _ h => h) htab hlocks
set_option maxHeartbeats 4000000 in
set_option maxRecDepth 100000 in
theorem c_X3_group_Ta (l : Launch) (D : va_G) (cI : ClassId) (cA : ClassId) (ad : Nat → Nat) (n : Nat) (x : Nat → Nat → Int32) (a : Int32) (hlt : l.stackTraces = false) (hca : cardB n a = false) : vx_Met l yX3_group wsX3_group ({ frames := 7, cells := 1, slots := 6, locals := 103 }) (va_Pc [.ref (ad 0), .int a] (cT D cI cA ad n x)) nQ (xE IOOB) 1 6 nF := by
  refine c_ofT (cc := cX3_group) (maxL := 2) (by decide) rfl (Nat.le_of_ble_eq_true rfl) ?_
  intro p e s m av below meth cd Q hQ hx hb hF htab hlocks hB ls hl
  obtain ⟨⟨hP, hK, hD, hT⟩, hXF⟩ := hB
  have hown : s.vm.findClass RX3 = some m.cls := hF.2.2.2.1
  have hF : CallFix p m cd cX3_group 2 s av wsX3_group RX3 := hF
  have hts := hF.2.2.2.2
  have hl : lv_has ls 2 [(0, .ref (ad 0)), (1, .int a)] := hl
  refine lv_aload_n hx hb dX3_group_0 rfl (lv_at hl 0 rfl) ?_
  refine lv_iload_n hx hb dX3_group_1 rfl (lv_at hl 1 rfl) ?_
  rw [hQ]
  exact k_To (vx_runV (As := [.int a]) (rest := []) hF (c_X3_checkCard_T l D cI cA ad n x a (by omega) hca) (cwV 1 hts gX3_group_X3_checkCard rfl rfl rfl (by decide +kernel) ⟨(Nat.le_of_ble_eq_true rfl), (Nat.le_of_ble_eq_true rfl)⟩) (k_preT hP hK hD hT hXF (k := 0) (by decide) cF_0 rfl) rfl rfl hl.1 rfl (lv_room (Nat.le_of_ble_eq_true rfl)) dX3_group_2 ⟨(Nat.le_of_ble_eq_true rfl), (Nat.le_of_ble_eq_true rfl)⟩) (fun _ _ _ h => h) htab hlocks
set_option maxHeartbeats 4000000 in
set_option maxRecDepth 100000 in
theorem c_X3_preferred_Ta (l : Launch) (D : va_G) (cI : ClassId) (cA : ClassId) (ad : Nat → Nat) (n : Nat) (x : Nat → Nat → Int32) (a : Int32) (hlt : l.stackTraces = false) (hca : cardB n a = false) : vx_Met l yX3_preferred wsX3_preferred ({ frames := 7, cells := 1, slots := 6, locals := 103 }) (va_Pc [.ref (ad 0), .int a] (cT D cI cA ad n x)) nQ (xE IOOB) 1 6 nF := by
  refine c_ofT (cc := cX3_preferred) (maxL := 2) (by decide) rfl (Nat.le_of_ble_eq_true rfl) ?_
  intro p e s m av below meth cd Q hQ hx hb hF htab hlocks hB ls hl
  obtain ⟨⟨hP, hK, hD, hT⟩, hXF⟩ := hB
  have hown : s.vm.findClass RX3 = some m.cls := hF.2.2.2.1
  have hF : CallFix p m cd cX3_preferred 2 s av wsX3_preferred RX3 := hF
  have hts := hF.2.2.2.2
  have hl : lv_has ls 2 [(0, .ref (ad 0)), (1, .int a)] := hl
  refine lv_aload_n hx hb dX3_preferred_0 rfl (lv_at hl 0 rfl) ?_
  refine lv_iload_n hx hb dX3_preferred_1 rfl (lv_at hl 1 rfl) ?_
  rw [hQ]
  exact k_To (vx_runV (As := [.int a]) (rest := []) hF (c_X3_checkCard_T l D cI cA ad n x a (by omega) hca) (cwV 1 hts gX3_preferred_X3_checkCard rfl rfl rfl (by decide +kernel) ⟨(Nat.le_of_ble_eq_true rfl), (Nat.le_of_ble_eq_true rfl)⟩) (k_preT hP hK hD hT hXF (k := 0) (by decide) cF_0 rfl) rfl rfl hl.1 rfl (lv_room (Nat.le_of_ble_eq_true rfl)) dX3_preferred_2 ⟨(Nat.le_of_ble_eq_true rfl), (Nat.le_of_ble_eq_true rfl)⟩) (fun _ _ _ h => h) htab hlocks
set_option maxHeartbeats 4000000 in
set_option maxRecDepth 100000 in
theorem c_X3_edit_Ta (l : Launch) (D : va_G) (cI : ClassId) (cA : ClassId) (ad : Nat → Nat) (n : Nat) (x : Nat → Nat → Int32) (a : Int32) (k : Int32) (w : Int32) (hlt : l.stackTraces = false) (hca : cardB n a = false) : vx_Met l yX3_edit wsX3_edit ({ frames := 7, cells := 1, slots := 6, locals := 103 }) (va_Pc [.ref (ad 0), .int a, .int k, .int w] (cT D cI cA ad n x)) nQ (xE IOOB) 1 6 nF := by
  refine c_ofT (cc := cX3_edit) (maxL := 6) (by decide) rfl (Nat.le_of_ble_eq_true rfl) ?_
  intro p e s m av below meth cd Q hQ hx hb hF htab hlocks hB ls hl
  obtain ⟨⟨hP, hK, hD, hT⟩, hXF⟩ := hB
  have hown : s.vm.findClass RX3 = some m.cls := hF.2.2.2.1
  have hF : CallFix p m cd cX3_edit 6 s av wsX3_edit RX3 := hF
  have hts := hF.2.2.2.2
  have hl : lv_has ls 6 [(0, .ref (ad 0)), (1, .int a), (2, .int k), (3, .int w)] := hl
  refine lv_aload_n hx hb dX3_edit_0 rfl (lv_at hl 0 rfl) ?_
  refine lv_iload_n hx hb dX3_edit_1 rfl (lv_at hl 1 rfl) ?_
  rw [hQ]
  exact k_To (vx_runV (As := [.int a]) (rest := []) hF (c_X3_checkCard_T l D cI cA ad n x a (by omega) hca) (cwV 1 hts gX3_edit_X3_checkCard rfl rfl rfl (by decide +kernel) ⟨(Nat.le_of_ble_eq_true rfl), (Nat.le_of_ble_eq_true rfl)⟩) (k_preT hP hK hD hT hXF (k := 0) (by decide) cF_0 rfl) rfl rfl hl.1 rfl (lv_room (Nat.le_of_ble_eq_true rfl)) dX3_edit_2 ⟨(Nat.le_of_ble_eq_true rfl), (Nat.le_of_ble_eq_true rfl)⟩) (fun _ _ _ h => h) htab hlocks
set_option maxHeartbeats 4000000 in
set_option maxRecDepth 100000 in
theorem c_X3_edit_Tb (l : Launch) (D : va_G) (cI : ClassId) (cA : ClassId) (ad : Nat → Nat) (n : Nat) (x : Nat → Nat → Int32) (c : Nat) (k : Int32) (w : Int32) (hlt : l.stackTraces = false) (hc : c < n) (hn : n ≤ 24) (hbad : (kindB k && valueB w) = false) : vx_Met l yX3_edit wsX3_edit ({ frames := 7, cells := 1, slots := 6, locals := 102 }) (va_Pc [.ref (ad 0), .int (nI c), .int k, .int w] (cT D cI cA ad n x)) nQ (xE IAE) 1 6 nF := by
  refine c_ofT (cc := cX3_edit) (maxL := 6) (by decide) rfl (Nat.le_of_ble_eq_true rfl) ?_
  intro p e s m av below meth cd Q hQ hx hb hF htab hlocks hB ls hl
  obtain ⟨⟨hP, hK, hD, hT⟩, hXF⟩ := hB
  have hown : s.vm.findClass RX3 = some m.cls := hF.2.2.2.1
  have hF : CallFix p m cd cX3_edit 6 s av wsX3_edit RX3 := hF
  have hts := hF.2.2.2.2
  have hl : lv_has ls 6 [(0, .ref (ad 0)), (1, .int (nI c)), (2, .int k), (3, .int w)] := hl
  refine lv_aload_n hx hb dX3_edit_0 rfl (lv_at hl 0 rfl) ?_
  refine lv_iload_n hx hb dX3_edit_1 rfl (lv_at hl 1 rfl) ?_
  refine k_Rv (va_runV (As := [.int (nI c)]) (rest := []) hF (c_X3_checkCard l D cI cA ad n x c hc hn) (cwV 1 hts gX3_edit_X3_checkCard rfl rfl rfl (by decide +kernel) ⟨(Nat.le_of_ble_eq_true rfl), (Nat.le_of_ble_eq_true rfl)⟩) (k_pre hP hK hD hT (k := 0) (by decide) cF_0 rfl) rfl rfl hl.1 rfl (lv_room (Nat.le_of_ble_eq_true rfl)) dX3_edit_2 ⟨Nat.zero_le _, Nat.zero_le _⟩) ?_
  refine lv_iload_n hx hb dX3_edit_5 rfl (lv_at hl 2 rfl) ?_
  refine k_Ri (va_runS (As := [.int k]) (rest := []) hF (c_X3_isKind l k) (va_cwS 1 hts gX3_edit_X3_isKind rfl rfl rfl (by decide +kernel) ⟨(Nat.le_of_ble_eq_true rfl), (Nat.le_of_ble_eq_true rfl)⟩) k_preS rfl rfl hl.1 rfl (lv_room (Nat.le_of_ble_eq_true rfl)) dX3_edit_6 ⟨Nat.zero_le _, Nat.zero_le _⟩) ?_
  have hJ24 : ∀ ls : Array Slot, lv_has ls 6 [(0, .ref (ad 0)), (1, .int (nI c)), (2, .int k), (3, .int w)] → W p l e ({ frames := 7, cells := 1, slots := 6, locals := 102 }) s m av below meth cd s.heap [] 0 0 Q (F0 m 24 ls [.int (bI (kindB k && valueB w))]) := by
    intro ls hl
    refine r_topi (show bI (kindB k && valueB w) = bI false from congrArg bI (hbad)) ?_
    rw [hQ]
    exact k_To (vx_runS (As := [.int (bI false)]) (rest := []) hF (c_X3_checkArgument_T l _ (by omega)) (va_cwS 1 hts gX3_edit_X3_checkArgument rfl rfl rfl (by decide +kernel) ⟨(Nat.le_of_ble_eq_true rfl), (Nat.le_of_ble_eq_true rfl)⟩) (k_preX hXF) rfl rfl hl.1 rfl (lv_room (Nat.le_of_ble_eq_true rfl)) dX3_edit_24 ⟨(Nat.le_of_ble_eq_true rfl), (Nat.le_of_ble_eq_true rfl)⟩) (fun _ _ _ h => h) htab hlocks
  refine r_ifeqB (b := kindB k) (tgt := 23) hx hb dX3_edit_9 (by decide) (fun h9_1 => ?_) (fun h9_1 => ?_)
  · refine lv_iconst (v := nI 0) hx hb dX3_edit_23 (by decide) ?_
    refine r_topi (show (nI 0 : Int32) = bI (kindB k && valueB w) from by simp [bI, h9_1]) ?_
    exact hJ24 _ (lv_sub hl [0, 1, 2, 3] rfl)
  · refine lv_iload_n hx hb dX3_edit_12 rfl (lv_at hl 3 rfl) ?_
    refine k_Ri (va_runS (As := [.int w]) (rest := []) hF (c_X3_isValue l w) (va_cwS 1 hts gX3_edit_X3_isValue rfl rfl rfl (by decide +kernel) ⟨(Nat.le_of_ble_eq_true rfl), (Nat.le_of_ble_eq_true rfl)⟩) k_preS rfl rfl hl.1 rfl (lv_room (Nat.le_of_ble_eq_true rfl)) dX3_edit_13 ⟨Nat.zero_le _, Nat.zero_le _⟩) ?_
    refine r_ifeqB (b := valueB w) (tgt := 23) hx hb dX3_edit_16 (by decide) (fun h16_2 => ?_) (fun h16_2 => ?_)
    · refine lv_iconst (v := nI 0) hx hb dX3_edit_23 (by decide) ?_
      refine r_topi (show (nI 0 : Int32) = bI (kindB k && valueB w) from by simp [bI, h9_1, h16_2]) ?_
      exact hJ24 _ (lv_sub hl [0, 1, 2, 3] rfl)
    · refine lv_iconst (v := nI 1) hx hb dX3_edit_19 (by decide) ?_
      refine lv_goto (tgt := 24) hx hb dX3_edit_20 (by decide) ?_
      refine r_topi (show (nI 1 : Int32) = bI (kindB k && valueB w) from by simp [bI, h9_1, h16_2]) ?_
      exact hJ24 _ (lv_sub hl [0, 1, 2, 3] rfl)
set_option maxHeartbeats 4000000 in
set_option maxRecDepth 100000 in
theorem c_X3_link_Ta (l : Launch) (D : va_G) (cI : ClassId) (cA : ClassId) (ad : Nat → Nat) (n : Nat) (x : Nat → Nat → Int32) (a : Int32) (b : Int32) (hlt : l.stackTraces = false) (hca : cardB n a = false) : vx_Met l yX3_link wsX3_link ({ frames := 8, cells := 1, slots := 6, locals := 125 }) (va_Pc [.ref (ad 0), .int a, .int b] (cT D cI cA ad n x)) nQ (xE IOOB) 1 6 nF := by
  refine c_ofT (cc := cX3_link) (maxL := 3) (by decide) rfl (Nat.le_of_ble_eq_true rfl) ?_
  intro p e s m av below meth cd Q hQ hx hb hF htab hlocks hB ls hl
  obtain ⟨⟨hP, hK, hD, hT⟩, hXF⟩ := hB
  have hown : s.vm.findClass RX3 = some m.cls := hF.2.2.2.1
  have hF : CallFix p m cd cX3_link 3 s av wsX3_link RX3 := hF
  have hts := hF.2.2.2.2
  have hl : lv_has ls 3 [(0, .ref (ad 0)), (1, .int a), (2, .int b)] := hl
  refine lv_aload_n hx hb dX3_link_0 rfl (lv_at hl 0 rfl) ?_
  refine lv_iload_n hx hb dX3_link_1 rfl (lv_at hl 1 rfl) ?_
  refine lv_iload_n hx hb dX3_link_2 rfl (lv_at hl 2 rfl) ?_
  rw [hQ]
  exact k_To (vx_runV (As := [.int a, .int b]) (rest := []) hF (c_X3_checkTwoCards_Ta l D cI cA ad n x a b (by omega) hca) (cwV 2 hts gX3_link_X3_checkTwoCards rfl rfl rfl (by decide +kernel) ⟨(Nat.le_of_ble_eq_true rfl), (Nat.le_of_ble_eq_true rfl)⟩) (k_preT hP hK hD hT hXF (k := 0) (by decide) cF_0 rfl) rfl rfl hl.1 rfl (lv_room (Nat.le_of_ble_eq_true rfl)) dX3_link_3 ⟨(Nat.le_of_ble_eq_true rfl), (Nat.le_of_ble_eq_true rfl)⟩) (fun _ _ _ h => h) htab hlocks
set_option maxHeartbeats 4000000 in
set_option maxRecDepth 100000 in
theorem c_X3_link_Tb (l : Launch) (D : va_G) (cI : ClassId) (cA : ClassId) (ad : Nat → Nat) (n : Nat) (x : Nat → Nat → Int32) (c : Nat) (b : Int32) (hlt : l.stackTraces = false) (hc : c < n) (hn : n ≤ 24) (hcb : cardB n b = false) : vx_Met l yX3_link wsX3_link ({ frames := 8, cells := 1, slots := 6, locals := 125 }) (va_Pc [.ref (ad 0), .int (nI c), .int b] (cT D cI cA ad n x)) nQ (xE IOOB) 1 6 nF := by
  refine c_ofT (cc := cX3_link) (maxL := 3) (by decide) rfl (Nat.le_of_ble_eq_true rfl) ?_
  intro p e s m av below meth cd Q hQ hx hb hF htab hlocks hB ls hl
  obtain ⟨⟨hP, hK, hD, hT⟩, hXF⟩ := hB
  have hown : s.vm.findClass RX3 = some m.cls := hF.2.2.2.1
  have hF : CallFix p m cd cX3_link 3 s av wsX3_link RX3 := hF
  have hts := hF.2.2.2.2
  have hl : lv_has ls 3 [(0, .ref (ad 0)), (1, .int (nI c)), (2, .int b)] := hl
  refine lv_aload_n hx hb dX3_link_0 rfl (lv_at hl 0 rfl) ?_
  refine lv_iload_n hx hb dX3_link_1 rfl (lv_at hl 1 rfl) ?_
  refine lv_iload_n hx hb dX3_link_2 rfl (lv_at hl 2 rfl) ?_
  rw [hQ]
  exact k_To (vx_runV (As := [.int (nI c), .int b]) (rest := []) hF (c_X3_checkTwoCards_Tb l D cI cA ad n x c b (by omega) hc hn hcb) (cwV 2 hts gX3_link_X3_checkTwoCards rfl rfl rfl (by decide +kernel) ⟨(Nat.le_of_ble_eq_true rfl), (Nat.le_of_ble_eq_true rfl)⟩) (k_preT hP hK hD hT hXF (k := 0) (by decide) cF_0 rfl) rfl rfl hl.1 rfl (lv_room (Nat.le_of_ble_eq_true rfl)) dX3_link_3 ⟨(Nat.le_of_ble_eq_true rfl), (Nat.le_of_ble_eq_true rfl)⟩) (fun _ _ _ h => h) htab hlocks
set_option maxHeartbeats 4000000 in
set_option maxRecDepth 100000 in
theorem c_X3_link_Tc (l : Launch) (D : va_G) (cI : ClassId) (cA : ClassId) (ad : Nat → Nat) (n : Nat) (x : Nat → Nat → Int32) (c : Nat) (hlt : l.stackTraces = false) (hc : c < n) (hn : n ≤ 24) : vx_Met l yX3_link wsX3_link ({ frames := 8, cells := 1, slots := 6, locals := 124 }) (va_Pc [.ref (ad 0), .int (nI c), .int (nI c)] (cT D cI cA ad n x)) nQ (xE IAE) 1 6 nF := by
  refine c_ofT (cc := cX3_link) (maxL := 3) (by decide) rfl (Nat.le_of_ble_eq_true rfl) ?_
  intro p e s m av below meth cd Q hQ hx hb hF htab hlocks hB ls hl
  obtain ⟨⟨hP, hK, hD, hT⟩, hXF⟩ := hB
  have hown : s.vm.findClass RX3 = some m.cls := hF.2.2.2.1
  have hF : CallFix p m cd cX3_link 3 s av wsX3_link RX3 := hF
  have hts := hF.2.2.2.2
  have hl : lv_has ls 3 [(0, .ref (ad 0)), (1, .int (nI c)), (2, .int (nI c))] := hl
  refine lv_aload_n hx hb dX3_link_0 rfl (lv_at hl 0 rfl) ?_
  refine lv_iload_n hx hb dX3_link_1 rfl (lv_at hl 1 rfl) ?_
  refine lv_iload_n hx hb dX3_link_2 rfl (lv_at hl 2 rfl) ?_
  rw [hQ]
  exact k_To (vx_runV (As := [.int (nI c), .int (nI c)]) (rest := []) hF (c_X3_checkTwoCards_Tc l D cI cA ad n x c (by omega) hc hn) (cwV 2 hts gX3_link_X3_checkTwoCards rfl rfl rfl (by decide +kernel) ⟨(Nat.le_of_ble_eq_true rfl), (Nat.le_of_ble_eq_true rfl)⟩) (k_preT hP hK hD hT hXF (k := 0) (by decide) cF_0 rfl) rfl rfl hl.1 rfl (lv_room (Nat.le_of_ble_eq_true rfl)) dX3_link_3 ⟨(Nat.le_of_ble_eq_true rfl), (Nat.le_of_ble_eq_true rfl)⟩) (fun _ _ _ h => h) htab hlocks
set_option maxHeartbeats 4000000 in
set_option maxRecDepth 100000 in
theorem c_X3_score_Ta (l : Launch) (D : va_G) (cI : ClassId) (cA : ClassId) (ad : Nat → Nat) (n : Nat) (x : Nat → Nat → Int32) (a : Int32) (b : Int32) (hlt : l.stackTraces = false) (hca : cardB n a = false) : vx_Met l yX3_score wsX3_score ({ frames := 8, cells := 1, slots := 6, locals := 125 }) (va_Pc [.ref (ad 0), .int a, .int b] (cT D cI cA ad n x)) nQ (xE IOOB) 1 6 nF := by
  refine c_ofT (cc := cX3_score) (maxL := 3) (by decide) rfl (Nat.le_of_ble_eq_true rfl) ?_
  intro p e s m av below meth cd Q hQ hx hb hF htab hlocks hB ls hl
  obtain ⟨⟨hP, hK, hD, hT⟩, hXF⟩ := hB
  have hown : s.vm.findClass RX3 = some m.cls := hF.2.2.2.1
  have hF : CallFix p m cd cX3_score 3 s av wsX3_score RX3 := hF
  have hts := hF.2.2.2.2
  have hl : lv_has ls 3 [(0, .ref (ad 0)), (1, .int a), (2, .int b)] := hl
  refine lv_aload_n hx hb dX3_score_0 rfl (lv_at hl 0 rfl) ?_
  refine lv_iload_n hx hb dX3_score_1 rfl (lv_at hl 1 rfl) ?_
  refine lv_iload_n hx hb dX3_score_2 rfl (lv_at hl 2 rfl) ?_
  rw [hQ]
  exact k_To (vx_runV (As := [.int a, .int b]) (rest := []) hF (c_X3_checkTwoCards_Ta l D cI cA ad n x a b (by omega) hca) (cwV 2 hts gX3_score_X3_checkTwoCards rfl rfl rfl (by decide +kernel) ⟨(Nat.le_of_ble_eq_true rfl), (Nat.le_of_ble_eq_true rfl)⟩) (k_preT hP hK hD hT hXF (k := 0) (by decide) cF_0 rfl) rfl rfl hl.1 rfl (lv_room (Nat.le_of_ble_eq_true rfl)) dX3_score_3 ⟨(Nat.le_of_ble_eq_true rfl), (Nat.le_of_ble_eq_true rfl)⟩) (fun _ _ _ h => h) htab hlocks
set_option maxHeartbeats 4000000 in
set_option maxRecDepth 100000 in
theorem c_X3_score_Tb (l : Launch) (D : va_G) (cI : ClassId) (cA : ClassId) (ad : Nat → Nat) (n : Nat) (x : Nat → Nat → Int32) (c : Nat) (b : Int32) (hlt : l.stackTraces = false) (hc : c < n) (hn : n ≤ 24) (hcb : cardB n b = false) : vx_Met l yX3_score wsX3_score ({ frames := 8, cells := 1, slots := 6, locals := 125 }) (va_Pc [.ref (ad 0), .int (nI c), .int b] (cT D cI cA ad n x)) nQ (xE IOOB) 1 6 nF := by
  refine c_ofT (cc := cX3_score) (maxL := 3) (by decide) rfl (Nat.le_of_ble_eq_true rfl) ?_
  intro p e s m av below meth cd Q hQ hx hb hF htab hlocks hB ls hl
  obtain ⟨⟨hP, hK, hD, hT⟩, hXF⟩ := hB
  have hown : s.vm.findClass RX3 = some m.cls := hF.2.2.2.1
  have hF : CallFix p m cd cX3_score 3 s av wsX3_score RX3 := hF
  have hts := hF.2.2.2.2
  have hl : lv_has ls 3 [(0, .ref (ad 0)), (1, .int (nI c)), (2, .int b)] := hl
  refine lv_aload_n hx hb dX3_score_0 rfl (lv_at hl 0 rfl) ?_
  refine lv_iload_n hx hb dX3_score_1 rfl (lv_at hl 1 rfl) ?_
  refine lv_iload_n hx hb dX3_score_2 rfl (lv_at hl 2 rfl) ?_
  rw [hQ]
  exact k_To (vx_runV (As := [.int (nI c), .int b]) (rest := []) hF (c_X3_checkTwoCards_Tb l D cI cA ad n x c b (by omega) hc hn hcb) (cwV 2 hts gX3_score_X3_checkTwoCards rfl rfl rfl (by decide +kernel) ⟨(Nat.le_of_ble_eq_true rfl), (Nat.le_of_ble_eq_true rfl)⟩) (k_preT hP hK hD hT hXF (k := 0) (by decide) cF_0 rfl) rfl rfl hl.1 rfl (lv_room (Nat.le_of_ble_eq_true rfl)) dX3_score_3 ⟨(Nat.le_of_ble_eq_true rfl), (Nat.le_of_ble_eq_true rfl)⟩) (fun _ _ _ h => h) htab hlocks
set_option maxHeartbeats 4000000 in
set_option maxRecDepth 100000 in
theorem c_X3_score_Tc (l : Launch) (D : va_G) (cI : ClassId) (cA : ClassId) (ad : Nat → Nat) (n : Nat) (x : Nat → Nat → Int32) (c : Nat) (hlt : l.stackTraces = false) (hc : c < n) (hn : n ≤ 24) : vx_Met l yX3_score wsX3_score ({ frames := 8, cells := 1, slots := 6, locals := 124 }) (va_Pc [.ref (ad 0), .int (nI c), .int (nI c)] (cT D cI cA ad n x)) nQ (xE IAE) 1 6 nF := by
  refine c_ofT (cc := cX3_score) (maxL := 3) (by decide) rfl (Nat.le_of_ble_eq_true rfl) ?_
  intro p e s m av below meth cd Q hQ hx hb hF htab hlocks hB ls hl
  obtain ⟨⟨hP, hK, hD, hT⟩, hXF⟩ := hB
  have hown : s.vm.findClass RX3 = some m.cls := hF.2.2.2.1
  have hF : CallFix p m cd cX3_score 3 s av wsX3_score RX3 := hF
  have hts := hF.2.2.2.2
  have hl : lv_has ls 3 [(0, .ref (ad 0)), (1, .int (nI c)), (2, .int (nI c))] := hl
  refine lv_aload_n hx hb dX3_score_0 rfl (lv_at hl 0 rfl) ?_
  refine lv_iload_n hx hb dX3_score_1 rfl (lv_at hl 1 rfl) ?_
  refine lv_iload_n hx hb dX3_score_2 rfl (lv_at hl 2 rfl) ?_
  rw [hQ]
  exact k_To (vx_runV (As := [.int (nI c), .int (nI c)]) (rest := []) hF (c_X3_checkTwoCards_Tc l D cI cA ad n x c (by omega) hc hn) (cwV 2 hts gX3_score_X3_checkTwoCards rfl rfl rfl (by decide +kernel) ⟨(Nat.le_of_ble_eq_true rfl), (Nat.le_of_ble_eq_true rfl)⟩) (k_preT hP hK hD hT hXF (k := 0) (by decide) cF_0 rfl) rfl rfl hl.1 rfl (lv_room (Nat.le_of_ble_eq_true rfl)) dX3_score_3 ⟨(Nat.le_of_ble_eq_true rfl), (Nat.le_of_ble_eq_true rfl)⟩) (fun _ _ _ h => h) htab hlocks
set_option maxHeartbeats 4000000 in
set_option maxRecDepth 100000 in
theorem c_X3_turnDown_Ta (l : Launch) (D : va_G) (cI : ClassId) (cA : ClassId) (ad : Nat → Nat) (n : Nat) (x : Nat → Nat → Int32) (a : Int32) (b : Int32) (g : Bool) (hlt : l.stackTraces = false) (hca : cardB n a = false) : vx_Met l yX3_turnDown wsX3_turnDown ({ frames := 8, cells := 1, slots := 6, locals := 125 }) (va_Pc [.ref (ad 0), .int a, .int b, .int (bI g)] (cT D cI cA ad n x)) nQ (xE IOOB) 1 6 nF := by
  refine c_ofT (cc := cX3_turnDown) (maxL := 4) (by decide) rfl (Nat.le_of_ble_eq_true rfl) ?_
  intro p e s m av below meth cd Q hQ hx hb hF htab hlocks hB ls hl
  obtain ⟨⟨hP, hK, hD, hT⟩, hXF⟩ := hB
  have hown : s.vm.findClass RX3 = some m.cls := hF.2.2.2.1
  have hF : CallFix p m cd cX3_turnDown 4 s av wsX3_turnDown RX3 := hF
  have hts := hF.2.2.2.2
  have hl : lv_has ls 4 [(0, .ref (ad 0)), (1, .int a), (2, .int b), (3, .int (bI g))] := hl
  refine lv_aload_n hx hb dX3_turnDown_0 rfl (lv_at hl 0 rfl) ?_
  refine lv_iload_n hx hb dX3_turnDown_1 rfl (lv_at hl 1 rfl) ?_
  refine lv_iload_n hx hb dX3_turnDown_2 rfl (lv_at hl 2 rfl) ?_
  rw [hQ]
  exact k_To (vx_runV (As := [.int a, .int b]) (rest := []) hF (c_X3_checkTwoCards_Ta l D cI cA ad n x a b (by omega) hca) (cwV 2 hts gX3_turnDown_X3_checkTwoCards rfl rfl rfl (by decide +kernel) ⟨(Nat.le_of_ble_eq_true rfl), (Nat.le_of_ble_eq_true rfl)⟩) (k_preT hP hK hD hT hXF (k := 0) (by decide) cF_0 rfl) rfl rfl hl.1 rfl (lv_room (Nat.le_of_ble_eq_true rfl)) dX3_turnDown_3 ⟨(Nat.le_of_ble_eq_true rfl), (Nat.le_of_ble_eq_true rfl)⟩) (fun _ _ _ h => h) htab hlocks
set_option maxHeartbeats 4000000 in
set_option maxRecDepth 100000 in
theorem c_X3_turnDown_Tb (l : Launch) (D : va_G) (cI : ClassId) (cA : ClassId) (ad : Nat → Nat) (n : Nat) (x : Nat → Nat → Int32) (c : Nat) (b : Int32) (g : Bool) (hlt : l.stackTraces = false) (hc : c < n) (hn : n ≤ 24) (hcb : cardB n b = false) : vx_Met l yX3_turnDown wsX3_turnDown ({ frames := 8, cells := 1, slots := 6, locals := 125 }) (va_Pc [.ref (ad 0), .int (nI c), .int b, .int (bI g)] (cT D cI cA ad n x)) nQ (xE IOOB) 1 6 nF := by
  refine c_ofT (cc := cX3_turnDown) (maxL := 4) (by decide) rfl (Nat.le_of_ble_eq_true rfl) ?_
  intro p e s m av below meth cd Q hQ hx hb hF htab hlocks hB ls hl
  obtain ⟨⟨hP, hK, hD, hT⟩, hXF⟩ := hB
  have hown : s.vm.findClass RX3 = some m.cls := hF.2.2.2.1
  have hF : CallFix p m cd cX3_turnDown 4 s av wsX3_turnDown RX3 := hF
  have hts := hF.2.2.2.2
  have hl : lv_has ls 4 [(0, .ref (ad 0)), (1, .int (nI c)), (2, .int b), (3, .int (bI g))] := hl
  refine lv_aload_n hx hb dX3_turnDown_0 rfl (lv_at hl 0 rfl) ?_
  refine lv_iload_n hx hb dX3_turnDown_1 rfl (lv_at hl 1 rfl) ?_
  refine lv_iload_n hx hb dX3_turnDown_2 rfl (lv_at hl 2 rfl) ?_
  rw [hQ]
  exact k_To (vx_runV (As := [.int (nI c), .int b]) (rest := []) hF (c_X3_checkTwoCards_Tb l D cI cA ad n x c b (by omega) hc hn hcb) (cwV 2 hts gX3_turnDown_X3_checkTwoCards rfl rfl rfl (by decide +kernel) ⟨(Nat.le_of_ble_eq_true rfl), (Nat.le_of_ble_eq_true rfl)⟩) (k_preT hP hK hD hT hXF (k := 0) (by decide) cF_0 rfl) rfl rfl hl.1 rfl (lv_room (Nat.le_of_ble_eq_true rfl)) dX3_turnDown_3 ⟨(Nat.le_of_ble_eq_true rfl), (Nat.le_of_ble_eq_true rfl)⟩) (fun _ _ _ h => h) htab hlocks
set_option maxHeartbeats 4000000 in
set_option maxRecDepth 100000 in
theorem c_X3_turnDown_Tc (l : Launch) (D : va_G) (cI : ClassId) (cA : ClassId) (ad : Nat → Nat) (n : Nat) (x : Nat → Nat → Int32) (c : Nat) (g : Bool) (hlt : l.stackTraces = false) (hc : c < n) (hn : n ≤ 24) : vx_Met l yX3_turnDown wsX3_turnDown ({ frames := 8, cells := 1, slots := 6, locals := 124 }) (va_Pc [.ref (ad 0), .int (nI c), .int (nI c), .int (bI g)] (cT D cI cA ad n x)) nQ (xE IAE) 1 6 nF := by
  refine c_ofT (cc := cX3_turnDown) (maxL := 4) (by decide) rfl (Nat.le_of_ble_eq_true rfl) ?_
  intro p e s m av below meth cd Q hQ hx hb hF htab hlocks hB ls hl
  obtain ⟨⟨hP, hK, hD, hT⟩, hXF⟩ := hB
  have hown : s.vm.findClass RX3 = some m.cls := hF.2.2.2.1
  have hF : CallFix p m cd cX3_turnDown 4 s av wsX3_turnDown RX3 := hF
  have hts := hF.2.2.2.2
  have hl : lv_has ls 4 [(0, .ref (ad 0)), (1, .int (nI c)), (2, .int (nI c)), (3, .int (bI g))] := hl
  refine lv_aload_n hx hb dX3_turnDown_0 rfl (lv_at hl 0 rfl) ?_
  refine lv_iload_n hx hb dX3_turnDown_1 rfl (lv_at hl 1 rfl) ?_
  refine lv_iload_n hx hb dX3_turnDown_2 rfl (lv_at hl 2 rfl) ?_
  rw [hQ]
  exact k_To (vx_runV (As := [.int (nI c), .int (nI c)]) (rest := []) hF (c_X3_checkTwoCards_Tc l D cI cA ad n x c (by omega) hc hn) (cwV 2 hts gX3_turnDown_X3_checkTwoCards rfl rfl rfl (by decide +kernel) ⟨(Nat.le_of_ble_eq_true rfl), (Nat.le_of_ble_eq_true rfl)⟩) (k_preT hP hK hD hT hXF (k := 0) (by decide) cF_0 rfl) rfl rfl hl.1 rfl (lv_room (Nat.le_of_ble_eq_true rfl)) dX3_turnDown_3 ⟨(Nat.le_of_ble_eq_true rfl), (Nat.le_of_ble_eq_true rfl)⟩) (fun _ _ _ h => h) htab hlocks
set_option maxHeartbeats 4000000 in
set_option maxRecDepth 100000 in
theorem c_X3_link_Td (l : Launch) (D : va_G) (cI : ClassId) (cA : ClassId) (ad : Nat → Nat) (n : Nat) (x : Nat → Nat → Int32) (c : Nat) (d : Nat) (hlt : l.stackTraces = false) (hc : c < n) (hd : d < n) (hne : c ≠ d) (hn : n ≤ 24) (hlk : hasB (x 8 c) d = true) : vx_Met l yX3_link wsX3_link ({ frames := 6, cells := 1, slots := 6, locals := 82 }) (va_Pc [.ref (ad 0), .int (nI c), .int (nI d)] (cT D cI cA ad n x)) nQ (xE ISE) 1 6 nF := by
  refine c_ofT (cc := cX3_link) (maxL := 3) (by decide) rfl (Nat.le_of_ble_eq_true rfl) ?_
  intro p e s m av below meth cd Q hQ hx hb hF htab hlocks hB ls hl
  obtain ⟨⟨hP, hK, hD, hT⟩, hXF⟩ := hB
  have hown : s.vm.findClass RX3 = some m.cls := hF.2.2.2.1
  have hF : CallFix p m cd cX3_link 3 s av wsX3_link RX3 := hF
  have hts := hF.2.2.2.2
  have hl : lv_has ls 3 [(0, .ref (ad 0)), (1, .int (nI c)), (2, .int (nI d))] := hl
  refine lv_aload_n hx hb dX3_link_0 rfl (lv_at hl 0 rfl) ?_
  refine lv_iload_n hx hb dX3_link_1 rfl (lv_at hl 1 rfl) ?_
  refine lv_iload_n hx hb dX3_link_2 rfl (lv_at hl 2 rfl) ?_
  refine k_Rv (va_runV (As := [.int (nI c), .int (nI d)]) (rest := []) hF (c_X3_checkTwoCards l D cI cA ad n x c d hc hd hne hn) (cwV 2 hts gX3_link_X3_checkTwoCards rfl rfl rfl (by decide +kernel) ⟨(Nat.le_of_ble_eq_true rfl), (Nat.le_of_ble_eq_true rfl)⟩) (k_pre hP hK hD hT (k := 0) (by decide) cF_0 rfl) rfl rfl hl.1 rfl (lv_room (Nat.le_of_ble_eq_true rfl)) dX3_link_3 ⟨Nat.zero_le _, Nat.zero_le _⟩) ?_
  refine lv_aload_n hx hb dX3_link_6 rfl (lv_at hl 0 rfl) ?_
  refine r_get (C := RX3) (T := TX3) (M := 4) (index := 19) (fd := "links") (fo := "LCardMerger$Links;") hx hb hts (by decide +kernel) hown hK hP 0 (by decide) cF_0 rfl 1 (by decide) rfl (by decide +kernel) rfl dX3_link_7 ?_
  refine lv_iload_n hx hb dX3_link_10 rfl (lv_at hl 1 rfl) ?_
  refine lv_iload_n hx hb dX3_link_11 rfl (lv_at hl 2 rfl) ?_
  refine k_Ri (va_runV (As := [.int (nI c), .int (nI d)]) (rest := []) hF (c_X1_areLinked l D cI cA ad n x c d (by omega)) (cwV 2 hts gX3_link_X1_areLinked rfl rfl rfl (by decide +kernel) ⟨(Nat.le_of_ble_eq_true rfl), (Nat.le_of_ble_eq_true rfl)⟩) (k_pre hP hK hD hT (k := 2) (by decide) cF_2 rfl) rfl rfl hl.1 rfl (lv_room (Nat.le_of_ble_eq_true rfl)) dX3_link_12 ⟨Nat.zero_le _, Nat.zero_le _⟩) ?_
  refine r_topi (show bI (hasB (x 8 c) d) = bI true from congrArg bI hlk) ?_
  refine r_ifeqB (b := true) (tgt := 28) hx hb dX3_link_15 (by decide) (fun h => absurd h (by decide)) (fun _ => ?_)
  rw [hQ]
  exact r_throw (cls := ISE) (text := "these two are linked") (ik := 50) (is := 120) (ic := 54) hx hb hlt hts hown (Or.inr (Or.inr rfl)) (by decide +kernel) (by decide +kernel) (by decide +kernel) (by decide +kernel) (by decide +kernel) (by decide +kernel) hXF.2.1.2.2.2.2.1 hXF.2.2 hXF.1 va_S.rf (hl.1.trans hF.2.2.1.symm) dX3_link_18 dX3_link_21 dX3_link_22 dX3_link_24 dX3_link_27 htab (Nat.le_of_ble_eq_true rfl) (Nat.le_of_ble_eq_true rfl) (Nat.le_of_ble_eq_true rfl) (Nat.le_of_ble_eq_true rfl) hlocks (fun t h1 h2 => ⟨rfl, h1, h2⟩) (fun _ h => by cases h) (Nat.le_refl _) (Nat.le_refl _)
set_option maxHeartbeats 4000000 in
set_option maxRecDepth 100000 in
theorem c_X3_turnDown_Td (l : Launch) (D : va_G) (cI : ClassId) (cA : ClassId) (ad : Nat → Nat) (n : Nat) (x : Nat → Nat → Int32) (c : Nat) (d : Nat) (g : Bool) (hlt : l.stackTraces = false) (hc : c < n) (hd : d < n) (hne : c ≠ d) (hn : n ≤ 24) (hsg : sg x c d = 0) : vx_Met l yX3_turnDown wsX3_turnDown ({ frames := 6, cells := 1, slots := 6, locals := 92 }) (va_Pc [.ref (ad 0), .int (nI c), .int (nI d), .int (bI g)] (cT D cI cA ad n x)) nQ (xE ISE) 1 6 nF := by
  refine c_ofT (cc := cX3_turnDown) (maxL := 4) (by decide) rfl (Nat.le_of_ble_eq_true rfl) ?_
  intro p e s m av below meth cd Q hQ hx hb hF htab hlocks hB ls hl
  obtain ⟨⟨hP, hK, hD, hT⟩, hXF⟩ := hB
  have hown : s.vm.findClass RX3 = some m.cls := hF.2.2.2.1
  have hF : CallFix p m cd cX3_turnDown 4 s av wsX3_turnDown RX3 := hF
  have hts := hF.2.2.2.2
  have hl : lv_has ls 4 [(0, .ref (ad 0)), (1, .int (nI c)), (2, .int (nI d)), (3, .int (bI g))] := hl
  refine lv_aload_n hx hb dX3_turnDown_0 rfl (lv_at hl 0 rfl) ?_
  refine lv_iload_n hx hb dX3_turnDown_1 rfl (lv_at hl 1 rfl) ?_
  refine lv_iload_n hx hb dX3_turnDown_2 rfl (lv_at hl 2 rfl) ?_
  refine k_Rv (va_runV (As := [.int (nI c), .int (nI d)]) (rest := []) hF (c_X3_checkTwoCards l D cI cA ad n x c d hc hd hne hn) (cwV 2 hts gX3_turnDown_X3_checkTwoCards rfl rfl rfl (by decide +kernel) ⟨(Nat.le_of_ble_eq_true rfl), (Nat.le_of_ble_eq_true rfl)⟩) (k_pre hP hK hD hT (k := 0) (by decide) cF_0 rfl) rfl rfl hl.1 rfl (lv_room (Nat.le_of_ble_eq_true rfl)) dX3_turnDown_3 ⟨Nat.zero_le _, Nat.zero_le _⟩) ?_
  refine lv_aload_n hx hb dX3_turnDown_6 rfl (lv_at hl 0 rfl) ?_
  refine lv_iload_n hx hb dX3_turnDown_7 rfl (lv_at hl 1 rfl) ?_
  refine lv_iload_n hx hb dX3_turnDown_8 rfl (lv_at hl 2 rfl) ?_
  refine k_Ri (va_runV (As := [.int (nI c), .int (nI d)]) (rest := []) hF (c_X3_suggestedScore l D cI cA ad n x c d (by omega) (by omega)) (cwV 2 hts gX3_turnDown_X3_suggestedScore rfl rfl rfl (by decide +kernel) ⟨(Nat.le_of_ble_eq_true rfl), (Nat.le_of_ble_eq_true rfl)⟩) (k_pre hP hK hD hT (k := 0) (by decide) cF_0 rfl) rfl rfl hl.1 rfl (lv_room (Nat.le_of_ble_eq_true rfl)) dX3_turnDown_9 ⟨Nat.zero_le _, Nat.zero_le _⟩) ?_
  refine lv_if_ne (tgt := 25) hx hb dX3_turnDown_12 (by decide) (fun h => absurd hsg h) (fun _ => ?_)
  rw [hQ]
  exact r_throw (cls := ISE) (text := "they are no suggested pair") (ik := 50) (is := 172) (ic := 54) hx hb hlt hts hown (Or.inr (Or.inr rfl)) (by decide +kernel) (by decide +kernel) (by decide +kernel) (by decide +kernel) (by decide +kernel) (by decide +kernel) hXF.2.1.2.2.2.2.2.2.2 hXF.2.2 hXF.1 va_S.rf (hl.1.trans hF.2.2.1.symm) dX3_turnDown_15 dX3_turnDown_18 dX3_turnDown_19 dX3_turnDown_21 dX3_turnDown_24 htab (Nat.le_of_ble_eq_true rfl) (Nat.le_of_ble_eq_true rfl) (Nat.le_of_ble_eq_true rfl) (Nat.le_of_ble_eq_true rfl) hlocks (fun t h1 h2 => ⟨rfl, h1, h2⟩) (fun _ h => by cases h) (Nat.le_refl _) (Nat.le_refl _)
set_option maxHeartbeats 4000000 in
set_option maxRecDepth 100000 in
theorem c_X3_cut_Ta (l : Launch) (D : va_G) (cI : ClassId) (cA : ClassId) (ad : Nat → Nat) (n : Nat) (x : Nat → Nat → Int32) (a : Int32) (b : Int32) (hlt : l.stackTraces = false) (hca : cardB n a = false) : vx_Met l yX3_cut wsX3_cut ({ frames := 7, cells := 1, slots := 6, locals := 103 }) (va_Pc [.ref (ad 0), .int a, .int b] (cT D cI cA ad n x)) nQ (xE IOOB) 1 6 nF := by
  refine c_ofT (cc := cX3_cut) (maxL := 3) (by decide) rfl (Nat.le_of_ble_eq_true rfl) ?_
  intro p e s m av below meth cd Q hQ hx hb hF htab hlocks hB ls hl
  obtain ⟨⟨hP, hK, hD, hT⟩, hXF⟩ := hB
  have hown : s.vm.findClass RX3 = some m.cls := hF.2.2.2.1
  have hF : CallFix p m cd cX3_cut 3 s av wsX3_cut RX3 := hF
  have hts := hF.2.2.2.2
  have hl : lv_has ls 3 [(0, .ref (ad 0)), (1, .int a), (2, .int b)] := hl
  refine lv_aload_n hx hb dX3_cut_0 rfl (lv_at hl 0 rfl) ?_
  refine lv_iload_n hx hb dX3_cut_1 rfl (lv_at hl 1 rfl) ?_
  rw [hQ]
  exact k_To (vx_runV (As := [.int a]) (rest := []) hF (c_X3_checkCard_T l D cI cA ad n x a (by omega) hca) (cwV 1 hts gX3_cut_X3_checkCard rfl rfl rfl (by decide +kernel) ⟨(Nat.le_of_ble_eq_true rfl), (Nat.le_of_ble_eq_true rfl)⟩) (k_preT hP hK hD hT hXF (k := 0) (by decide) cF_0 rfl) rfl rfl hl.1 rfl (lv_room (Nat.le_of_ble_eq_true rfl)) dX3_cut_2 ⟨(Nat.le_of_ble_eq_true rfl), (Nat.le_of_ble_eq_true rfl)⟩) (fun _ _ _ h => h) htab hlocks
set_option maxHeartbeats 4000000 in
set_option maxRecDepth 100000 in
theorem c_X3_cut_Tb (l : Launch) (D : va_G) (cI : ClassId) (cA : ClassId) (ad : Nat → Nat) (n : Nat) (x : Nat → Nat → Int32) (c : Nat) (b : Int32) (hlt : l.stackTraces = false) (hc : c < n) (hn : n ≤ 24) (hcb : cardB n b = false) : vx_Met l yX3_cut wsX3_cut ({ frames := 7, cells := 1, slots := 6, locals := 103 }) (va_Pc [.ref (ad 0), .int (nI c), .int b] (cT D cI cA ad n x)) nQ (xE IOOB) 1 6 nF := by
  refine c_ofT (cc := cX3_cut) (maxL := 3) (by decide) rfl (Nat.le_of_ble_eq_true rfl) ?_
  intro p e s m av below meth cd Q hQ hx hb hF htab hlocks hB ls hl
  obtain ⟨⟨hP, hK, hD, hT⟩, hXF⟩ := hB
  have hown : s.vm.findClass RX3 = some m.cls := hF.2.2.2.1
  have hF : CallFix p m cd cX3_cut 3 s av wsX3_cut RX3 := hF
  have hts := hF.2.2.2.2
  have hl : lv_has ls 3 [(0, .ref (ad 0)), (1, .int (nI c)), (2, .int b)] := hl
  refine lv_aload_n hx hb dX3_cut_0 rfl (lv_at hl 0 rfl) ?_
  refine lv_iload_n hx hb dX3_cut_1 rfl (lv_at hl 1 rfl) ?_
  refine k_Rv (va_runV (As := [.int (nI c)]) (rest := []) hF (c_X3_checkCard l D cI cA ad n x c hc hn) (cwV 1 hts gX3_cut_X3_checkCard rfl rfl rfl (by decide +kernel) ⟨(Nat.le_of_ble_eq_true rfl), (Nat.le_of_ble_eq_true rfl)⟩) (k_pre hP hK hD hT (k := 0) (by decide) cF_0 rfl) rfl rfl hl.1 rfl (lv_room (Nat.le_of_ble_eq_true rfl)) dX3_cut_2 ⟨Nat.zero_le _, Nat.zero_le _⟩) ?_
  refine lv_aload_n hx hb dX3_cut_5 rfl (lv_at hl 0 rfl) ?_
  refine lv_iload_n hx hb dX3_cut_6 rfl (lv_at hl 2 rfl) ?_
  rw [hQ]
  exact k_To (vx_runV (As := [.int b]) (rest := []) hF (c_X3_checkCard_T l D cI cA ad n x b (by omega) hcb) (cwV 1 hts gX3_cut_X3_checkCard rfl rfl rfl (by decide +kernel) ⟨(Nat.le_of_ble_eq_true rfl), (Nat.le_of_ble_eq_true rfl)⟩) (k_preT hP hK hD hT hXF (k := 0) (by decide) cF_0 rfl) rfl rfl hl.1 rfl (lv_room (Nat.le_of_ble_eq_true rfl)) dX3_cut_7 ⟨(Nat.le_of_ble_eq_true rfl), (Nat.le_of_ble_eq_true rfl)⟩) (fun _ _ _ h => h) htab hlocks
set_option maxHeartbeats 4000000 in
set_option maxRecDepth 100000 in
theorem c_X3_cut_Tc (l : Launch) (D : va_G) (cI : ClassId) (cA : ClassId) (ad : Nat → Nat) (n : Nat) (x : Nat → Nat → Int32) (c : Nat) (d : Nat) (hlt : l.stackTraces = false) (hc : c < n) (hd : d < n) (hn : n ≤ 24) (hlk : hasB (x 8 c) d = false) : vx_Met l yX3_cut wsX3_cut ({ frames := 6, cells := 1, slots := 6, locals := 82 }) (va_Pc [.ref (ad 0), .int (nI c), .int (nI d)] (cT D cI cA ad n x)) nQ (xE ISE) 1 6 nF := by
  refine c_ofT (cc := cX3_cut) (maxL := 3) (by decide) rfl (Nat.le_of_ble_eq_true rfl) ?_
  intro p e s m av below meth cd Q hQ hx hb hF htab hlocks hB ls hl
  obtain ⟨⟨hP, hK, hD, hT⟩, hXF⟩ := hB
  have hown : s.vm.findClass RX3 = some m.cls := hF.2.2.2.1
  have hF : CallFix p m cd cX3_cut 3 s av wsX3_cut RX3 := hF
  have hts := hF.2.2.2.2
  have hl : lv_has ls 3 [(0, .ref (ad 0)), (1, .int (nI c)), (2, .int (nI d))] := hl
  refine lv_aload_n hx hb dX3_cut_0 rfl (lv_at hl 0 rfl) ?_
  refine lv_iload_n hx hb dX3_cut_1 rfl (lv_at hl 1 rfl) ?_
  refine k_Rv (va_runV (As := [.int (nI c)]) (rest := []) hF (c_X3_checkCard l D cI cA ad n x c hc hn) (cwV 1 hts gX3_cut_X3_checkCard rfl rfl rfl (by decide +kernel) ⟨(Nat.le_of_ble_eq_true rfl), (Nat.le_of_ble_eq_true rfl)⟩) (k_pre hP hK hD hT (k := 0) (by decide) cF_0 rfl) rfl rfl hl.1 rfl (lv_room (Nat.le_of_ble_eq_true rfl)) dX3_cut_2 ⟨Nat.zero_le _, Nat.zero_le _⟩) ?_
  refine lv_aload_n hx hb dX3_cut_5 rfl (lv_at hl 0 rfl) ?_
  refine lv_iload_n hx hb dX3_cut_6 rfl (lv_at hl 2 rfl) ?_
  refine k_Rv (va_runV (As := [.int (nI d)]) (rest := []) hF (c_X3_checkCard l D cI cA ad n x d hd hn) (cwV 1 hts gX3_cut_X3_checkCard rfl rfl rfl (by decide +kernel) ⟨(Nat.le_of_ble_eq_true rfl), (Nat.le_of_ble_eq_true rfl)⟩) (k_pre hP hK hD hT (k := 0) (by decide) cF_0 rfl) rfl rfl hl.1 rfl (lv_room (Nat.le_of_ble_eq_true rfl)) dX3_cut_7 ⟨Nat.zero_le _, Nat.zero_le _⟩) ?_
  refine lv_aload_n hx hb dX3_cut_10 rfl (lv_at hl 0 rfl) ?_
  refine r_get (C := RX3) (T := TX3) (M := 4) (index := 19) (fd := "links") (fo := "LCardMerger$Links;") hx hb hts (by decide +kernel) hown hK hP 0 (by decide) cF_0 rfl 1 (by decide) rfl (by decide +kernel) rfl dX3_cut_11 ?_
  refine lv_iload_n hx hb dX3_cut_14 rfl (lv_at hl 1 rfl) ?_
  refine lv_iload_n hx hb dX3_cut_15 rfl (lv_at hl 2 rfl) ?_
  refine k_Ri (va_runV (As := [.int (nI c), .int (nI d)]) (rest := []) hF (c_X1_areLinked l D cI cA ad n x c d (by omega)) (cwV 2 hts gX3_cut_X1_areLinked rfl rfl rfl (by decide +kernel) ⟨(Nat.le_of_ble_eq_true rfl), (Nat.le_of_ble_eq_true rfl)⟩) (k_pre hP hK hD hT (k := 2) (by decide) cF_2 rfl) rfl rfl hl.1 rfl (lv_room (Nat.le_of_ble_eq_true rfl)) dX3_cut_16 ⟨Nat.zero_le _, Nat.zero_le _⟩) ?_
  refine r_topi (show bI (hasB (x 8 c) d) = bI false from congrArg bI hlk) ?_
  refine r_ifneB (b := false) (tgt := 32) hx hb dX3_cut_19 (by decide) (fun h => absurd h (by decide)) (fun _ => ?_)
  rw [hQ]
  exact r_throw (cls := ISE) (text := "these two are not linked") (ik := 50) (is := 134) (ic := 54) hx hb hlt hts hown (Or.inr (Or.inr rfl)) (by decide +kernel) (by decide +kernel) (by decide +kernel) (by decide +kernel) (by decide +kernel) (by decide +kernel) hXF.2.1.2.2.2.2.2.1 hXF.2.2 hXF.1 va_S.rf (hl.1.trans hF.2.2.1.symm) dX3_cut_22 dX3_cut_25 dX3_cut_26 dX3_cut_28 dX3_cut_31 htab (Nat.le_of_ble_eq_true rfl) (Nat.le_of_ble_eq_true rfl) (Nat.le_of_ble_eq_true rfl) (Nat.le_of_ble_eq_true rfl) hlocks (fun t h1 h2 => ⟨rfl, h1, h2⟩) (fun _ h => by cases h) (Nat.le_refl _) (Nat.le_refl _)
set_option maxHeartbeats 4000000 in
set_option maxRecDepth 100000 in
theorem c_X3_pairAt_Ta (l : Launch) (D : va_G) (cI : ClassId) (cA : ClassId) (ad : Nat → Nat) (n : Nat) (x : Nat → Nat → Int32) (q : Int32) (hlt : l.stackTraces = false) (hn : n ≤ 24) (hqt : ¬ (¬ q < 0 ∧ q < tlC x n)) : vx_Met l yX3_pairAt wsX3_pairAt ({ frames := 6, cells := 1, slots := 6, locals := 116 }) (va_Pc [.ref (ad 0), .int q] (cT D cI cA ad n x)) nQ (xEW D ad (cF cI cA ad n (tlS x n)) 46 IOOB) 1 6 (wA ad 46) := by
  refine c_ofX (cc := cX3_pairAt) (maxL := 5) (by decide) rfl (Nat.le_of_ble_eq_true rfl) ?_
  intro p e s m av below meth cd Q hQ hx hb hF htab hlocks hB ls hl
  obtain ⟨⟨hP, hK, hD, hT⟩, hXF⟩ := hB
  have hown : s.vm.findClass RX3 = some m.cls := hF.2.2.2.1
  have hF : CallFix p m cd cX3_pairAt 5 s av wsX3_pairAt RX3 := hF
  have hts := hF.2.2.2.2
  have hl : lv_has ls 5 [(0, .ref (ad 0)), (1, .int q)] := hl
  have hD := hD.any (fun k hk => wA.in (ad := ad) (n := 46) hk)
  obtain ⟨H, eH⟩ : ∃ H9 : Heap, H9 = s.heap := ⟨_, rfl⟩
  obtain ⟨locs, eL⟩ : ∃ L9 : List Loc, L9 = [] := ⟨_, rfl⟩
  have hS : sS (wA ad 46) s.heap H locs := by rw [eH, eL]; exact sS.rf
  rw [← eH] at hP
  suffices hgo : W p l e ({ frames := 6, cells := 1, slots := 6, locals := 116 }) s m av below meth cd H locs 0 0 Q (F0 m 0 ls []) by rw [eH, eL] at hgo; exact hgo
  clear eH eL
  refine lv_aload_n hx hb dX3_pairAt_0 rfl (lv_at hl 0 rfl) ?_
  refine k_Wi (va_runV (As := []) (rest := []) hF (c_X3_tallyPairs l D cI cA ad n x hn) (cwV 0 hts gX3_pairAt_X3_tallyPairs rfl rfl rfl (by decide +kernel) ⟨(Nat.le_of_ble_eq_true rfl), (Nat.le_of_ble_eq_true rfl)⟩) (k_pre hP hK hD hT (k := 0) (by decide) cF_0 rfl) rfl rfl hl.1 rfl (lv_room (Nat.le_of_ble_eq_true rfl)) dX3_pairAt_1 ⟨Nat.zero_le _, Nat.zero_le _⟩) hD hS (fun H locs hP hS => ?_)
  refine lv_istore_n (lv' := [(2, .int (tlC x n)), (0, .ref (ad 0)), (1, .int q)]) hx hb dX3_pairAt_4 rfl hl (by decide) rfl (fun ls hl => ?_)
  refine lv_iload_n hx hb dX3_pairAt_5 rfl (lv_at hl 2 rfl) ?_
  refine lv_if_lt (tgt := 14) hx hb dX3_pairAt_6 (by decide) (fun h6_1 => ?_) (fun h6_1 => ?_)
  · rw [hQ]
    exact r_throw (cls := IOOB) (text := "no such place") (ik := 161) (is := 163) (ic := 165) hx hb hlt hts hown (Or.inl rfl) (by decide +kernel) (by decide +kernel) (by decide +kernel) (by decide +kernel) (by decide +kernel) (by decide +kernel) hXF.2.1.2.2.2.2.2.2.1 hXF.2.2 hXF.1 hS.1 (hl.1.trans hF.2.2.1.symm) dX3_pairAt_14 dX3_pairAt_17 dX3_pairAt_18 dX3_pairAt_20 dX3_pairAt_23 htab (Nat.le_of_ble_eq_true rfl) (Nat.le_of_ble_eq_true rfl) (Nat.le_of_ble_eq_true rfl) (Nat.le_of_ble_eq_true rfl) hlocks (fun t h1 h2 => ⟨rfl, hP.kept (fun k q hk => h2 _ (hP k q hk).lt), Nat.le_trans hS.1.1 h1, fun q hq hn => (h2 q (Nat.lt_of_lt_of_le hq hS.1.1)).trans (hS.1.2.1 q hq hn)⟩) hS.1.2.2 (Nat.le_refl _) (Nat.le_refl _)
  · refine lv_iload_n hx hb dX3_pairAt_9 rfl (lv_at hl 2 rfl) ?_
    refine lv_iload_n hx hb dX3_pairAt_10 rfl (lv_at hl 0 rfl) ?_
    refine lv_icmp_lt (tgt := 24) hx hb dX3_pairAt_11 (by decide) (fun h => absurd ⟨by assumption, h⟩ hqt) (fun _ => ?_)
    rw [hQ]
    exact r_throw (cls := IOOB) (text := "no such place") (ik := 161) (is := 163) (ic := 165) hx hb hlt hts hown (Or.inl rfl) (by decide +kernel) (by decide +kernel) (by decide +kernel) (by decide +kernel) (by decide +kernel) (by decide +kernel) hXF.2.1.2.2.2.2.2.2.1 hXF.2.2 hXF.1 hS.1 (hl.1.trans hF.2.2.1.symm) dX3_pairAt_14 dX3_pairAt_17 dX3_pairAt_18 dX3_pairAt_20 dX3_pairAt_23 htab (Nat.le_of_ble_eq_true rfl) (Nat.le_of_ble_eq_true rfl) (Nat.le_of_ble_eq_true rfl) (Nat.le_of_ble_eq_true rfl) hlocks (fun t h1 h2 => ⟨rfl, hP.kept (fun k q hk => h2 _ (hP k q hk).lt), Nat.le_trans hS.1.1 h1, fun q hq hn => (h2 q (Nat.lt_of_lt_of_le hq hS.1.1)).trans (hS.1.2.1 q hq hn)⟩) hS.1.2.2 (Nat.le_refl _) (Nat.le_refl _)
