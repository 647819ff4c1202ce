set_option maxHeartbeats 4000000 in
set_option maxRecDepth 100000 in
theorem c_X3_checkBook_T (l : Launch) (D : va_G) (cI : ClassId) (cA : ClassId) (ad : Nat → Nat) (n : Nat) (x : Nat → Nat → Int32) (b : Int32) (hlt : l.stackTraces = false) (hbk : bookB b = false) : vx_Met l yX3_checkBook wsX3_checkBook ({ frames := 6, cells := 1, slots := 6, locals := 82 }) (va_Pc [.ref (ad 0), .int b] (cT D cI cA ad n x)) nQ (xE IOOB) 1 6 nF := by
  refine c_ofT (cc := cX3_checkBook) (maxL := 2) (by decide) rfl (Nat.le_of_ble_eq_true rfl) ?_
  intro p e s m av below meth cd Q hQ hx hb hF htab hlocks hB ls hl
  obtain ⟨⟨hP, hK, hD, hT⟩, hXF⟩ := hB
  have hown : s.vm.findClass RX3 = some m.cls := hF.2.2.2.1
  have hF : CallFix p m cd cX3_checkBook 2 s av wsX3_checkBook RX3 := hF
  have hts := hF.2.2.2.2
  have hl : lv_has ls 2 [(0, .ref (ad 0)), (1, .int b)] := hl
  refine lv_iload_n hx hb dX3_checkBook_0 rfl (lv_at hl 1 rfl) ?_
  refine lv_if_lt (tgt := 9) hx hb dX3_checkBook_1 (by decide) (fun h1_1 => ?_) (fun h1_1 => ?_)
  · rw [hQ]
    exact r_throw (cls := IOOB) (text := "no such book") (ik := 161) (is := 183) (ic := 165) hx hb hlt hts hown (Or.inl rfl) (by decide +kernel) (by decide +kernel) (by decide +kernel) (by decide +kernel) (by decide +kernel) (by decide +kernel) hXF.2.1.1 hXF.2.2 hXF.1 va_S.rf (hl.1.trans hF.2.2.1.symm) dX3_checkBook_9 dX3_checkBook_12 dX3_checkBook_13 dX3_checkBook_15 dX3_checkBook_18 htab (Nat.le_of_ble_eq_true rfl) (Nat.le_of_ble_eq_true rfl) (Nat.le_of_ble_eq_true rfl) (Nat.le_of_ble_eq_true rfl) hlocks (fun t h1 h2 => ⟨rfl, h1, h2⟩) (fun _ h => by cases h) (Nat.le_refl _) (Nat.le_refl _)
  · refine lv_iload_n hx hb dX3_checkBook_4 rfl (lv_at hl 1 rfl) ?_
    refine lv_iconst (v := nI 3) hx hb dX3_checkBook_5 (by decide) ?_
    refine lv_icmp_lt (tgt := 19) hx hb dX3_checkBook_6 (by decide) (fun h => (bookB_3 hbk (by assumption) h).elim) (fun _ => ?_)
    rw [hQ]
    exact r_throw (cls := IOOB) (text := "no such book") (ik := 161) (is := 183) (ic := 165) hx hb hlt hts hown (Or.inl rfl) (by decide +kernel) (by decide +kernel) (by decide +kernel) (by decide +kernel) (by decide +kernel) (by decide +kernel) hXF.2.1.1 hXF.2.2 hXF.1 va_S.rf (hl.1.trans hF.2.2.1.symm) dX3_checkBook_9 dX3_checkBook_12 dX3_checkBook_13 dX3_checkBook_15 dX3_checkBook_18 htab (Nat.le_of_ble_eq_true rfl) (Nat.le_of_ble_eq_true rfl) (Nat.le_of_ble_eq_true rfl) (Nat.le_of_ble_eq_true rfl) hlocks (fun t h1 h2 => ⟨rfl, h1, h2⟩) (fun _ h => by cases h) (Nat.le_refl _) (Nat.le_refl _)
set_option maxHeartbeats 4000000 in
set_option maxRecDepth 100000 in
theorem c_X3_checkCard_T (l : Launch) (D : va_G) (cI : ClassId) (cA : ClassId) (ad : Nat → Nat) (n : Nat) (x : Nat → Nat → Int32) (a : Int32) (hlt : l.stackTraces = false) (hca : cardB n a = false) : vx_Met l yX3_checkCard wsX3_checkCard ({ frames := 6, cells := 1, slots := 6, locals := 82 }) (va_Pc [.ref (ad 0), .int a] (cT D cI cA ad n x)) nQ (xE IOOB) 1 6 nF := by
  refine c_ofT (cc := cX3_checkCard) (maxL := 2) (by decide) rfl (Nat.le_of_ble_eq_true rfl) ?_
  intro p e s m av below meth cd Q hQ hx hb hF htab hlocks hB ls hl
  obtain ⟨⟨hP, hK, hD, hT⟩, hXF⟩ := hB
  have hown : s.vm.findClass RX3 = some m.cls := hF.2.2.2.1
  have hF : CallFix p m cd cX3_checkCard 2 s av wsX3_checkCard RX3 := hF
  have hts := hF.2.2.2.2
  have hl : lv_has ls 2 [(0, .ref (ad 0)), (1, .int a)] := hl
  refine lv_iload_n hx hb dX3_checkCard_0 rfl (lv_at hl 1 rfl) ?_
  refine lv_if_lt (tgt := 15) hx hb dX3_checkCard_1 (by decide) (fun h1_1 => ?_) (fun h1_1 => ?_)
  · rw [hQ]
    exact r_throw (cls := IOOB) (text := "no such card") (ik := 161) (is := 185) (ic := 165) hx hb hlt hts hown (Or.inl rfl) (by decide +kernel) (by decide +kernel) (by decide +kernel) (by decide +kernel) (by decide +kernel) (by decide +kernel) hXF.2.1.2.1 hXF.2.2 hXF.1 va_S.rf (hl.1.trans hF.2.2.1.symm) dX3_checkCard_15 dX3_checkCard_18 dX3_checkCard_19 dX3_checkCard_21 dX3_checkCard_24 htab (Nat.le_of_ble_eq_true rfl) (Nat.le_of_ble_eq_true rfl) (Nat.le_of_ble_eq_true rfl) (Nat.le_of_ble_eq_true rfl) hlocks (fun t h1 h2 => ⟨rfl, h1, h2⟩) (fun _ h => by cases h) (Nat.le_refl _) (Nat.le_refl _)
  · refine lv_iload_n hx hb dX3_checkCard_4 rfl (lv_at hl 1 rfl) ?_
    refine lv_aload_n hx hb dX3_checkCard_5 rfl (lv_at hl 0 rfl) ?_
    refine r_get (C := RX3) (T := TX3) (M := 4) (index := 12) (fd := "cards") (fo := "LCardMerger$Cards;") hx hb hts (by decide +kernel) hown hK hP 0 (by decide) cF_0 rfl 0 (by decide) rfl (by decide +kernel) rfl dX3_checkCard_6 ?_
    refine r_cnt hx hb hts (by decide +kernel) hown hK hP hT.1 dX3_checkCard_9 ?_
    refine lv_icmp_lt (tgt := 25) hx hb dX3_checkCard_12 (by decide) (fun h => (cardB_3 hca (by assumption) h).elim) (fun _ => ?_)
    rw [hQ]
    exact r_throw (cls := IOOB) (text := "no such card") (ik := 161) (is := 185) (ic := 165) hx hb hlt hts hown (Or.inl rfl) (by decide +kernel) (by decide +kernel) (by decide +kernel) (by decide +kernel) (by decide +kernel) (by decide +kernel) hXF.2.1.2.1 hXF.2.2 hXF.1 va_S.rf (hl.1.trans hF.2.2.1.symm) dX3_checkCard_15 dX3_checkCard_18 dX3_checkCard_19 dX3_checkCard_21 dX3_checkCard_24 htab (Nat.le_of_ble_eq_true rfl) (Nat.le_of_ble_eq_true rfl) (Nat.le_of_ble_eq_true rfl) (Nat.le_of_ble_eq_true rfl) hlocks (fun t h1 h2 => ⟨rfl, h1, h2⟩) (fun _ h => by cases h) (Nat.le_refl _) (Nat.le_refl _)
set_option maxHeartbeats 4000000 in
set_option maxRecDepth 100000 in
theorem c_X3_checkArgument_T (l : Launch) (A : Nat → Prop) (hlt : l.stackTraces = false) : vx_Met l yX3_checkArgument wsX3_checkArgument ({ frames := 6, cells := 1, slots := 6, locals := 82 }) (va_Pc [.int (bI false)] (xF A)) nQ (xE IAE) 1 6 nF := by
  refine c_ofT (cc := cX3_checkArgument) (maxL := 1) (by decide) rfl (Nat.le_of_ble_eq_true rfl) ?_
  intro p e s m av below meth cd Q hQ hx hb hF htab hlocks hB ls hl
  have hXF := hB
  have hown : s.vm.findClass RX3 = some m.cls := hF.2.2.2.1
  have hF : CallFix p m cd cX3_checkArgument 1 s av wsX3_checkArgument RX3 := hF
  have hts := hF.2.2.2.2
  have hl : lv_has ls 1 [(0, .int (bI false))] := hl
  refine lv_iload_n hx hb dX3_checkArgument_0 rfl (lv_at hl 0 rfl) ?_
  refine r_ifneB (b := false) (tgt := 14) hx hb dX3_checkArgument_1 (by decide) (fun h => absurd h (by decide)) (fun _ => ?_)
  rw [hQ]
  exact r_throw (cls := IAE) (text := "an argument is out of its range") (ik := 187) (is := 189) (ic := 191) hx hb hlt hts hown (Or.inr (Or.inl rfl)) (by decide +kernel) (by decide +kernel) (by decide +kernel) (by decide +kernel) (by decide +kernel) (by decide +kernel) hXF.2.1.2.2.1 hXF.2.2 hXF.1 va_S.rf (hl.1.trans hF.2.2.1.symm) dX3_checkArgument_4 dX3_checkArgument_7 dX3_checkArgument_8 dX3_checkArgument_10 dX3_checkArgument_13 htab (Nat.le_of_ble_eq_true rfl) (Nat.le_of_ble_eq_true rfl) (Nat.le_of_ble_eq_true rfl) (Nat.le_of_ble_eq_true rfl) hlocks (fun t h1 h2 => ⟨rfl, h1, h2⟩) (fun _ h => by cases h) (Nat.le_refl _) (Nat.le_refl _)
set_option maxHeartbeats 4000000 in
set_option maxRecDepth 100000 in
theorem c_X3_checkTwoCards_Ta (l : Launch) (D : va_G) (cI : ClassId) (cA : ClassId) (ad : Nat → Nat) (n : Nat) (x : Nat → Nat → Int32) (a : Int32) (b : Int32) (hlt : l.stackTraces = false) (hca : cardB n a = false) : vx_Met l yX3_checkTwoCards wsX3_checkTwoCards ({ frames := 7, cells := 1, slots := 6, locals := 103 }) (va_Pc [.ref (ad 0), .int a, .int b] (cT D cI cA ad n x)) nQ (xE IOOB) 1 6 nF := by
  refine c_ofT (cc := cX3_checkTwoCards) (maxL := 3) (by decide) rfl (Nat.le_of_ble_eq_true rfl) ?_
  intro p e s m av below meth cd Q hQ hx hb hF htab hlocks hB ls hl
  obtain ⟨⟨hP, hK, hD, hT⟩, hXF⟩ := hB
  have hown : s.vm.findClass RX3 = some m.cls := hF.2.2.2.1
  have hF : CallFix p m cd cX3_checkTwoCards 3 s av wsX3_checkTwoCards RX3 := hF
  have hts := hF.2.2.2.2
  have hl : lv_has ls 3 [(0, .ref (ad 0)), (1, .int a), (2, .int b)] := hl
  refine lv_aload_n hx hb dX3_checkTwoCards_0 rfl (lv_at hl 0 rfl) ?_
  refine lv_iload_n hx hb dX3_checkTwoCards_1 rfl (lv_at hl 1 rfl) ?_
  rw [hQ]
  exact k_To (vx_runV (As := [.int a]) (rest := []) hF (c_X3_checkCard_T l D cI cA ad n x a (by omega) hca) (cwV 1 hts gX3_checkTwoCards_X3_checkCard rfl rfl rfl (by decide +kernel) ⟨(Nat.le_of_ble_eq_true rfl), (Nat.le_of_ble_eq_true rfl)⟩) (k_preT hP hK hD hT hXF (k := 0) (by decide) cF_0 rfl) rfl rfl hl.1 rfl (lv_room (Nat.le_of_ble_eq_true rfl)) dX3_checkTwoCards_2 ⟨(Nat.le_of_ble_eq_true rfl), (Nat.le_of_ble_eq_true rfl)⟩) (fun _ _ _ h => h) htab hlocks
set_option maxHeartbeats 4000000 in
set_option maxRecDepth 100000 in
theorem c_X3_checkTwoCards_Tb (l : Launch) (D : va_G) (cI : ClassId) (cA : ClassId) (ad : Nat → Nat) (n : Nat) (x : Nat → Nat → Int32) (c : Nat) (b : Int32) (hlt : l.stackTraces = false) (hc : c < n) (hn : n ≤ 24) (hcb : cardB n b = false) : vx_Met l yX3_checkTwoCards wsX3_checkTwoCards ({ frames := 7, cells := 1, slots := 6, locals := 103 }) (va_Pc [.ref (ad 0), .int (nI c), .int b] (cT D cI cA ad n x)) nQ (xE IOOB) 1 6 nF := by
  refine c_ofT (cc := cX3_checkTwoCards) (maxL := 3) (by decide) rfl (Nat.le_of_ble_eq_true rfl) ?_
  intro p e s m av below meth cd Q hQ hx hb hF htab hlocks hB ls hl
  obtain ⟨⟨hP, hK, hD, hT⟩, hXF⟩ := hB
  have hown : s.vm.findClass RX3 = some m.cls := hF.2.2.2.1
  have hF : CallFix p m cd cX3_checkTwoCards 3 s av wsX3_checkTwoCards RX3 := hF
  have hts := hF.2.2.2.2
  have hl : lv_has ls 3 [(0, .ref (ad 0)), (1, .int (nI c)), (2, .int b)] := hl
  refine lv_aload_n hx hb dX3_checkTwoCards_0 rfl (lv_at hl 0 rfl) ?_
  refine lv_iload_n hx hb dX3_checkTwoCards_1 rfl (lv_at hl 1 rfl) ?_
  refine k_Rv (va_runV (As := [.int (nI c)]) (rest := []) hF (c_X3_checkCard l D cI cA ad n x c hc hn) (cwV 1 hts gX3_checkTwoCards_X3_checkCard rfl rfl rfl (by decide +kernel) ⟨(Nat.le_of_ble_eq_true rfl), (Nat.le_of_ble_eq_true rfl)⟩) (k_pre hP hK hD hT (k := 0) (by decide) cF_0 rfl) rfl rfl hl.1 rfl (lv_room (Nat.le_of_ble_eq_true rfl)) dX3_checkTwoCards_2 ⟨Nat.zero_le _, Nat.zero_le _⟩) ?_
  refine lv_aload_n hx hb dX3_checkTwoCards_5 rfl (lv_at hl 0 rfl) ?_
  refine lv_iload_n hx hb dX3_checkTwoCards_6 rfl (lv_at hl 2 rfl) ?_
  rw [hQ]
  exact k_To (vx_runV (As := [.int b]) (rest := []) hF (c_X3_checkCard_T l D cI cA ad n x b (by omega) hcb) (cwV 1 hts gX3_checkTwoCards_X3_checkCard rfl rfl rfl (by decide +kernel) ⟨(Nat.le_of_ble_eq_true rfl), (Nat.le_of_ble_eq_true rfl)⟩) (k_preT hP hK hD hT hXF (k := 0) (by decide) cF_0 rfl) rfl rfl hl.1 rfl (lv_room (Nat.le_of_ble_eq_true rfl)) dX3_checkTwoCards_7 ⟨(Nat.le_of_ble_eq_true rfl), (Nat.le_of_ble_eq_true rfl)⟩) (fun _ _ _ h => h) htab hlocks
set_option maxHeartbeats 4000000 in
set_option maxRecDepth 100000 in
theorem c_X3_checkTwoCards_Tc (l : Launch) (D : va_G) (cI : ClassId) (cA : ClassId) (ad : Nat → Nat) (n : Nat) (x : Nat → Nat → Int32) (c : Nat) (hlt : l.stackTraces = false) (hc : c < n) (hn : n ≤ 24) : vx_Met l yX3_checkTwoCards wsX3_checkTwoCards ({ frames := 7, cells := 1, slots := 6, locals := 102 }) (va_Pc [.ref (ad 0), .int (nI c), .int (nI c)] (cT D cI cA ad n x)) nQ (xE IAE) 1 6 nF := by
  refine c_ofT (cc := cX3_checkTwoCards) (maxL := 3) (by decide) rfl (Nat.le_of_ble_eq_true rfl) ?_
  intro p e s m av below meth cd Q hQ hx hb hF htab hlocks hB ls hl
  obtain ⟨⟨hP, hK, hD, hT⟩, hXF⟩ := hB
  have hown : s.vm.findClass RX3 = some m.cls := hF.2.2.2.1
  have hF : CallFix p m cd cX3_checkTwoCards 3 s av wsX3_checkTwoCards RX3 := hF
  have hts := hF.2.2.2.2
  have hl : lv_has ls 3 [(0, .ref (ad 0)), (1, .int (nI c)), (2, .int (nI c))] := hl
  refine lv_aload_n hx hb dX3_checkTwoCards_0 rfl (lv_at hl 0 rfl) ?_
  refine lv_iload_n hx hb dX3_checkTwoCards_1 rfl (lv_at hl 1 rfl) ?_
  refine k_Rv (va_runV (As := [.int (nI c)]) (rest := []) hF (c_X3_checkCard l D cI cA ad n x c hc hn) (cwV 1 hts gX3_checkTwoCards_X3_checkCard rfl rfl rfl (by decide +kernel) ⟨(Nat.le_of_ble_eq_true rfl), (Nat.le_of_ble_eq_true rfl)⟩) (k_pre hP hK hD hT (k := 0) (by decide) cF_0 rfl) rfl rfl hl.1 rfl (lv_room (Nat.le_of_ble_eq_true rfl)) dX3_checkTwoCards_2 ⟨Nat.zero_le _, Nat.zero_le _⟩) ?_
  refine lv_aload_n hx hb dX3_checkTwoCards_5 rfl (lv_at hl 0 rfl) ?_
  refine lv_iload_n hx hb dX3_checkTwoCards_6 rfl (lv_at hl 2 rfl) ?_
  refine k_Rv (va_runV (As := [.int (nI c)]) (rest := []) hF (c_X3_checkCard l D cI cA ad n x c hc hn) (cwV 1 hts gX3_checkTwoCards_X3_checkCard rfl rfl rfl (by decide +kernel) ⟨(Nat.le_of_ble_eq_true rfl), (Nat.le_of_ble_eq_true rfl)⟩) (k_pre hP hK hD hT (k := 0) (by decide) cF_0 rfl) rfl rfl hl.1 rfl (lv_room (Nat.le_of_ble_eq_true rfl)) dX3_checkTwoCards_7 ⟨Nat.zero_le _, Nat.zero_le _⟩) ?_
  refine lv_iload_n hx hb dX3_checkTwoCards_10 rfl (lv_at hl 1 rfl) ?_
  refine lv_iload_n hx hb dX3_checkTwoCards_11 rfl (lv_at hl 2 rfl) ?_
  refine r_ceqN (a := c) (b := c) (tgt := 19) hx hb (by omega) (by omega) dX3_checkTwoCards_12 (by decide) (fun _ => ?_) (fun h => absurd h (by omega))
  refine lv_iconst (v := nI 0) hx hb dX3_checkTwoCards_19 (by decide) ?_
  rw [hQ]
  exact k_To (vx_runS (As := [.int (nI 0)]) (rest := []) hF (c_X3_checkArgument_T l _ (by omega)) (va_cwS 1 hts gX3_checkTwoCards_X3_checkArgument rfl rfl rfl (by decide +kernel) ⟨(Nat.le_of_ble_eq_true rfl), (Nat.le_of_ble_eq_true rfl)⟩) (k_preX hXF) rfl rfl hl.1 rfl (lv_room (Nat.le_of_ble_eq_true rfl)) dX3_checkTwoCards_20 ⟨(Nat.le_of_ble_eq_true rfl), (Nat.le_of_ble_eq_true rfl)⟩) (fun _ _ _ h => h) htab hlocks
