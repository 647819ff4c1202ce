set_option maxHeartbeats 4000000 in
set_option maxRecDepth 100000 in
theorem c_X4_isIn (l : Launch) (a : Int32) (b : Int32) (z : Int32) : Met l yX4_isIn wsX4_isIn ({ frames := 0, cells := 0, slots := 0, locals := 0 }) (va_Pc [.int a, .int b, .int z] (fun _ => True)) (qR (some (.int (bI (inB a b z))))) 0 0 nF := by
  refine c_ofP (cc := cX4_isIn) (maxL := 3) (ret := .boolean) (by decide) rfl (nar_bI _) (Nat.le_of_ble_eq_true rfl) ?_
  intro p e s m av below meth cd Q hx hb hF hret ls hl
  have hown : s.vm.findClass RX4 = some m.cls := hF.2.2.2.1
  have hF : CallFix p m cd cX4_isIn 3 s av wsX4_isIn RX4 := hF
  have hts := hF.2.2.2.2
  have hl : lv_has ls 3 [(0, .int a), (1, .int b), (2, .int z)] := hl
  refine lv_iload_n hx hb dX4_isIn_0 rfl (lv_at hl 0 rfl) ?_
  refine lv_iload_n hx hb dX4_isIn_1 rfl (lv_at hl 1 rfl) ?_
  refine lv_icmp_lt (tgt := 14) hx hb dX4_isIn_2 (by decide) (fun h2_1 => ?_) (fun h2_1 => ?_)
  · refine lv_iconst (v := nI 0) hx hb dX4_isIn_14 (by decide) ?_
    exact hret _ _ _ dX4_isIn_15 (by simp [inB, bI, h2_1])
  · refine lv_iload_n hx hb dX4_isIn_5 rfl (lv_at hl 0 rfl) ?_
    refine lv_iload_n hx hb dX4_isIn_6 rfl (lv_at hl 2 rfl) ?_
    refine lv_icmp_gt (tgt := 14) hx hb dX4_isIn_7 (by decide) (fun h7_2 => ?_) (fun h7_2 => ?_)
    · refine lv_iconst (v := nI 0) hx hb dX4_isIn_14 (by decide) ?_
      exact hret _ _ _ dX4_isIn_15 (by simp [inB, bI, h2_1, h7_2])
    · refine lv_iconst (v := nI 1) hx hb dX4_isIn_10 (by decide) ?_
      refine lv_goto (tgt := 15) hx hb dX4_isIn_11 (by decide) ?_
      exact hret _ _ _ dX4_isIn_15 (by simp [inB, bI, h2_1, h7_2])
set_option maxHeartbeats 4000000 in
set_option maxRecDepth 100000 in
theorem c_X4_isBook (l : Launch) (a : Int32) : Met l yX4_isBook wsX4_isBook ({ frames := 1, cells := 0, slots := 0, locals := 22 }) (va_Pc [.int a] (fun _ => True)) (qR (some (.int (bI (bookB a))))) 0 0 nF := by
  refine c_ofP (cc := cX4_isBook) (maxL := 1) (ret := .boolean) (by decide) rfl (nar_bI _) (Nat.le_of_ble_eq_true rfl) ?_
  intro p e s m av below meth cd Q hx hb hF hret ls hl
  have hown : s.vm.findClass RX4 = some m.cls := hF.2.2.2.1
  have hF : CallFix p m cd cX4_isBook 1 s av wsX4_isBook RX4 := hF
  have hts := hF.2.2.2.2
  have hl : lv_has ls 1 [(0, .int a)] := hl
  refine lv_iload_n hx hb dX4_isBook_0 rfl (lv_at hl 0 rfl) ?_
  refine lv_iconst (v := nI 0) hx hb dX4_isBook_1 (by decide) ?_
  refine lv_iconst (v := nI 2) hx hb dX4_isBook_2 (by decide) ?_
  refine k_Ri (va_runS (As := [.int a, .int (nI 0), .int (nI 2)]) (rest := []) hF (c_X4_isIn l a (nI 0) (nI 2)) (va_cwS 3 hts gX4_isBook_X4_isIn rfl rfl rfl (by decide +kernel) ⟨(Nat.le_of_ble_eq_true rfl), (Nat.le_of_ble_eq_true rfl)⟩) k_preS rfl rfl hl.1 rfl (lv_room (Nat.le_of_ble_eq_true rfl)) dX4_isBook_3 ⟨Nat.zero_le _, Nat.zero_le _⟩) ?_
  exact hret _ _ _ dX4_isBook_6 (congrArg bI inB_book)
set_option maxHeartbeats 4000000 in
set_option maxRecDepth 100000 in
theorem c_X4_isKind (l : Launch) (a : Int32) : Met l yX4_isKind wsX4_isKind ({ frames := 1, cells := 0, slots := 0, locals := 22 }) (va_Pc [.int a] (fun _ => True)) (qR (some (.int (bI (kindB a))))) 0 0 nF := by
  refine c_ofP (cc := cX4_isKind) (maxL := 1) (ret := .boolean) (by decide) rfl (nar_bI _) (Nat.le_of_ble_eq_true rfl) ?_
  intro p e s m av below meth cd Q hx hb hF hret ls hl
  have hown : s.vm.findClass RX4 = some m.cls := hF.2.2.2.1
  have hF : CallFix p m cd cX4_isKind 1 s av wsX4_isKind RX4 := hF
  have hts := hF.2.2.2.2
  have hl : lv_has ls 1 [(0, .int a)] := hl
  refine lv_iload_n hx hb dX4_isKind_0 rfl (lv_at hl 0 rfl) ?_
  refine lv_iconst (v := nI 0) hx hb dX4_isKind_1 (by decide) ?_
  refine lv_iconst (v := nI 1) hx hb dX4_isKind_2 (by decide) ?_
  refine k_Ri (va_runS (As := [.int a, .int (nI 0), .int (nI 1)]) (rest := []) hF (c_X4_isIn l a (nI 0) (nI 1)) (va_cwS 3 hts gX4_isKind_X4_isIn rfl rfl rfl (by decide +kernel) ⟨(Nat.le_of_ble_eq_true rfl), (Nat.le_of_ble_eq_true rfl)⟩) k_preS rfl rfl hl.1 rfl (lv_room (Nat.le_of_ble_eq_true rfl)) dX4_isKind_3 ⟨Nat.zero_le _, Nat.zero_le _⟩) ?_
  exact hret _ _ _ dX4_isKind_6 (congrArg bI inB_kind)
set_option maxHeartbeats 4000000 in
set_option maxRecDepth 100000 in
theorem c_X4_at (l : Launch) (c : Nat) (v : Nat) (k : Nat) (hc : c < 24) (hv : v < 3) (hk : k < 2) : Met l yX4_at wsX4_at ({ frames := 0, cells := 0, slots := 0, locals := 0 }) (va_Pc [.int (nI c), .int (nI v), .int (nI k)] (fun _ => True)) (qR (some (.int (nI (6 * c + 2 * v + k))))) 0 0 nF := by
  refine c_ofP (cc := cX4_at) (maxL := 3) (ret := .int) (by decide) rfl rfl (Nat.le_of_ble_eq_true rfl) ?_
  intro p e s m av below meth cd Q hx hb hF hret ls hl
  have hown : s.vm.findClass RX4 = some m.cls := hF.2.2.2.1
  have hF : CallFix p m cd cX4_at 3 s av wsX4_at RX4 := hF
  have hts := hF.2.2.2.2
  have hl : lv_has ls 3 [(0, .int (nI c)), (1, .int (nI v)), (2, .int (nI k))] := hl
  refine lv_iconst (v := nI 2) hx hb dX4_at_0 (by decide) ?_
  refine lv_iconst (v := nI 3) hx hb dX4_at_1 (by decide) ?_
  refine lv_iload_n hx hb dX4_at_2 rfl (lv_at hl 0 rfl) ?_
  refine r_mulN (a := 3) (b := c) (r := 3 * c) hx hb dX4_at_3 (by omega) ?_
  refine lv_iload_n hx hb dX4_at_4 rfl (lv_at hl 1 rfl) ?_
  refine r_addN (a := 3 * c) (b := v) (r := 3 * c + v) hx hb dX4_at_5 (by omega) ?_
  refine r_mulN (a := 2) (b := 3 * c + v) (r := 6 * c + 2 * v) hx hb dX4_at_6 (by omega) ?_
  refine lv_iload_n hx hb dX4_at_7 rfl (lv_at hl 2 rfl) ?_
  refine r_addN (a := 6 * c + 2 * v) (b := k) (r := 6 * c + 2 * v + k) hx hb dX4_at_8 (by omega) ?_
  exact hret _ _ _ dX4_at_9 (rfl)
set_option maxHeartbeats 4000000 in
set_option maxRecDepth 100000 in
theorem c_X4_count (l : Launch) (a : Int32) : Met l yX4_count wsX4_count ({ frames := 0, cells := 0, slots := 0, locals := 0 }) (va_Pc [.int a] (fun _ => True)) (qR (some (.int (cntV a 30)))) 0 0 nF := by
  refine c_ofP (cc := cX4_count) (maxL := 3) (ret := .int) (by decide) rfl rfl (Nat.le_of_ble_eq_true rfl) ?_
  intro p e s m av below meth cd Q hx hb hF hret ls hl
  have hown : s.vm.findClass RX4 = some m.cls := hF.2.2.2.1
  have hF : CallFix p m cd cX4_count 3 s av wsX4_count RX4 := hF
  have hts := hF.2.2.2.2
  have hl : lv_has ls 3 [(0, .int a)] := hl
  refine lv_iconst (v := nI 0) hx hb dX4_count_0 (by decide) ?_
  refine lv_istore_n (lv' := [(1, .int (nI 0)), (0, .int a)]) hx hb dX4_count_1 rfl hl (by decide) rfl (fun ls hl => ?_)
  refine lv_iconst (v := nI 0) hx hb dX4_count_2 (by decide) ?_
  refine lv_istore_n (lv' := [(2, .int (nI 0)), (1, .int (nI 0)), (0, .int a)]) hx hb dX4_count_3 rfl hl (by decide) rfl (fun ls hl => ?_)
  have hL4 : ∀ i : Nat, i ≤ 30 → ∀ ls : Array Slot, lv_has ls 3 [(0, .int a), (1, .int (cntV a i)), (2, .int (nI i))] → W p l e ({ frames := 0, cells := 0, slots := 0, locals := 0 }) s m av below meth cd s.heap [] 0 0 Q (F0 m 4 ls []) := by
    refine down (30) ?_ ?_
    · intro ls hl
      refine lv_iload_n hx hb dX4_count_4 rfl (lv_at hl 2 rfl) ?_
      refine lv_bipush (v := nI 30) hx hb dX4_count_5 (by decide) ?_
      refine r_cgeN (a := 30) (b := 30) (tgt := 24) hx hb (by omega) (by omega) dX4_count_7 (by decide) (fun _ => ?_) (fun h => absurd h (by omega))
      refine lv_iload_n hx hb dX4_count_24 rfl (lv_at hl 1 rfl) ?_
      exact hret _ _ _ dX4_count_25 (rfl)
    · intro i hi4 ih4 ls hl
      refine lv_iload_n hx hb dX4_count_4 rfl (lv_at hl 2 rfl) ?_
      refine lv_bipush (v := nI 30) hx hb dX4_count_5 (by decide) ?_
      refine r_cgeN (a := i) (b := 30) (tgt := 24) hx hb (by omega) (by omega) dX4_count_7 (by decide) (fun h => absurd h (by omega)) (fun _ => ?_)
      refine lv_iload_n hx hb dX4_count_10 rfl (lv_at hl 1 rfl) ?_
      refine lv_iload_n hx hb dX4_count_11 rfl (lv_at hl 0 rfl) ?_
      refine lv_iload_n hx hb dX4_count_12 rfl (lv_at hl 2 rfl) ?_
      refine lv_ishr hx hb dX4_count_13 ?_
      refine lv_iconst (v := nI 1) hx hb dX4_count_14 (by decide) ?_
      refine lv_iand hx hb dX4_count_15 ?_
      refine lv_iadd hx hb dX4_count_16 ?_
      refine lv_istore_n (lv' := [(1, .int ((cntV a i) + ((a >>> ((nI i) &&& 31)) &&& (nI 1)))), (0, .int a), (2, .int (nI i))]) hx hb dX4_count_17 rfl hl (by decide) rfl (fun ls hl => ?_)
      refine r_iincN (k := 2) (a := i) (d := 1) (r := i + 1) (lv' := [(2, .int (nI (i + 1))), (1, .int ((cntV a i) + ((a >>> ((nI i) &&& 31)) &&& (nI 1)))), (0, .int a)]) hx hb dX4_count_18 hl rfl (by omega) (by decide) rfl (fun ls hl => ?_)
      refine lv_goto (tgt := 4) hx hb dX4_count_21 (by decide) ?_
      exact ih4 _ (lv_cast (lv_sub (l' := [(0, .int a), (1, .int ((cntV a i) + ((a >>> ((nI i) &&& 31)) &&& (nI 1)))), (2, .int (nI (i + 1)))]) hl [2, 1, 0] rfl) (by rw [show (cntV a (i + 1) : Int32) = (cntV a i) + ((a >>> ((nI i) &&& 31)) &&& (nI 1)) from rfl]))
  exact hL4 0 (Nat.zero_le _) _ (lv_cast (lv_sub (l' := [(0, .int a), (1, .int (nI 0)), (2, .int (nI 0))]) hl [2, 1, 0] rfl) (by rw [show (cntV a 0 : Int32) = nI 0 from rfl]))
set_option maxHeartbeats 4000000 in
set_option maxRecDepth 100000 in
theorem c_X4_has (l : Launch) (c : Nat) (s9 : Int32) (hc : c < 32) : Met l yX4_has wsX4_has ({ frames := 0, cells := 0, slots := 0, locals := 0 }) (va_Pc [.int s9, .int (nI c)] (fun _ => True)) (qR (some (.int (bI (hasB s9 c))))) 0 0 nF := by
  refine c_ofP (cc := cX4_has) (maxL := 2) (ret := .boolean) (by decide) rfl (nar_bI _) (Nat.le_of_ble_eq_true rfl) ?_
  intro p e s m av below meth cd Q hx hb hF hret ls hl
  have hown : s.vm.findClass RX4 = some m.cls := hF.2.2.2.1
  have hF : CallFix p m cd cX4_has 2 s av wsX4_has RX4 := hF
  have hts := hF.2.2.2.2
  have hl : lv_has ls 2 [(0, .int s9), (1, .int (nI c))] := hl
  refine lv_iload_n hx hb dX4_has_0 rfl (lv_at hl 0 rfl) ?_
  refine lv_iload_n hx hb dX4_has_1 rfl (lv_at hl 1 rfl) ?_
  refine lv_ishr hx hb dX4_has_2 ?_
  refine lv_iconst (v := nI 1) hx hb dX4_has_3 (by decide) ?_
  refine lv_iand hx hb dX4_has_4 ?_
  refine lv_iconst (v := nI 1) hx hb dX4_has_5 (by decide) ?_
  refine lv_icmp_ne (tgt := 13) hx hb dX4_has_6 (by decide) (fun h6_1 => ?_) (fun h6_1 => ?_)
  · refine lv_iconst (v := nI 0) hx hb dX4_has_13 (by decide) ?_
    exact hret _ _ _ dX4_has_14 (by first | (rw [show hasB s9 c = true from (mhas hc).mp (by assumption)]; rfl) | (rw [show hasB s9 c = false from Bool.eq_false_iff.mpr (fun q => absurd ((mhas hc).mpr q) (by assumption))]; rfl))
  · refine lv_iconst (v := nI 1) hx hb dX4_has_9 (by decide) ?_
    refine lv_goto (tgt := 14) hx hb dX4_has_10 (by decide) ?_
    exact hret _ _ _ dX4_has_14 (by first | (rw [show hasB s9 c = true from (mhas hc).mp (by assumption)]; rfl) | (rw [show hasB s9 c = false from Bool.eq_false_iff.mpr (fun q => absurd ((mhas hc).mpr q) (by assumption))]; rfl))
set_option maxHeartbeats 4000000 in
set_option maxRecDepth 100000 in
theorem c_X4_isCard (l : Launch) (D : va_G) (cI : ClassId) (cA : ClassId) (ad : Nat → Nat) (th : Int32) (n : Nat) (y : Nat → Nat → Int32) (a : Int32) (hn : n ≤ 24) : Met l yX4_isCard wsX4_isCard ({ frames := 1, cells := 0, slots := 0, locals := 22 }) (va_Pc [.ref (ad 0), .int a] (mX D cI cA ad th n y)) (qR (some (.int (bI (cardB n a))))) 0 0 nF := by
  refine c_ofR (cc := cX4_isCard) (maxL := 2) (ret := .boolean) (by decide) rfl (nar_bI _) (Nat.le_of_ble_eq_true rfl) ?_
  intro p e s m av below meth cd Q hx hb hF hP hK hD hT hret ls hl
  have hown : s.vm.findClass RX4 = some m.cls := hF.2.2.2.1
  have hF : CallFix p m cd cX4_isCard 2 s av wsX4_isCard RX4 := hF
  have hts := hF.2.2.2.2
  have hl : lv_has ls 2 [(0, .ref (ad 0)), (1, .int a)] := hl
  refine lv_iload_n hx hb dX4_isCard_0 rfl (lv_at hl 1 rfl) ?_
  refine lv_iconst (v := nI 0) hx hb dX4_isCard_1 (by decide) ?_
  refine lv_aload_n hx hb dX4_isCard_2 rfl (lv_at hl 0 rfl) ?_
  refine r_get (C := RX4) (T := TX4) (M := 9) (index := 35) (fd := "cards") (fo := "I") hx hb hts (by decide +kernel) hown hK hP 0 (by decide) mF_0 rfl 7 (by decide) rfl (by decide +kernel) rfl dX4_isCard_3 ?_
  refine lv_iconst (v := nI 1) hx hb dX4_isCard_6 (by decide) ?_
  refine lv_isub hx hb dX4_isCard_7 ?_
  refine k_Ri (va_runS (As := [.int a, .int (nI 0), .int ((nI n) - (nI 1))]) (rest := []) hF (c_X4_isIn l a (nI 0) ((nI n) - (nI 1))) (va_cwS 3 hts gX4_isCard_X4_isIn rfl rfl rfl (by decide +kernel) ⟨(Nat.le_of_ble_eq_true rfl), (Nat.le_of_ble_eq_true rfl)⟩) k_preS rfl rfl hl.1 rfl (lv_room (Nat.le_of_ble_eq_true rfl)) dX4_isCard_8 ⟨Nat.zero_le _, Nat.zero_le _⟩) ?_
  exact hret _ _ _ dX4_isCard_11 (congrArg bI (inB_card hn))
set_option maxHeartbeats 4000000 in
set_option maxRecDepth 100000 in
theorem c_X4_isFine_0 (l : Launch) (D : va_G) (cI : ClassId) (cA : ClassId) (ad : Nat → Nat) (th : Int32) (n : Nat) (y : Nat → Nat → Int32) : Met l yX4_isFine wsX4_isFine ({ frames := 0, cells := 0, slots := 0, locals := 0 }) (va_Pc [.ref (ad 0), .int (nI 0)] (mX D cI cA ad th n y)) (qW D ad (mF cI ad (nI 0) n y) 8 (some (.int (bI true)))) 0 0 (wA ad 8) := by
  refine c_ofW (cc := cX4_isFine) (maxL := 2) (ret := .boolean) (by decide) rfl (nar_bI _) (Nat.le_of_ble_eq_true rfl) ?_
  intro p e s m av below meth cd Q hx hb hF hP hK hD hT hret ls hl
  have hown : s.vm.findClass RX4 = some m.cls := hF.2.2.2.1
  have hF : CallFix p m cd cX4_isFine 2 s av wsX4_isFine RX4 := hF
  have hts := hF.2.2.2.2
  have hl : lv_has ls 2 [(0, .ref (ad 0)), (1, .int (nI 0))] := hl
  obtain ⟨H, eH⟩ : ∃ H9 : Heap, H9 = s.heap := ⟨_, rfl⟩
  obtain ⟨locs, eL⟩ : ∃ L9 : List Loc, L9 = [] := ⟨_, rfl⟩
  have hS : sS (wA ad 8) s.heap H locs := by rw [eH, eL]; exact sS.rf
  rw [← eH] at hP
  suffices hgo : W p l e ({ frames := 0, cells := 0, slots := 0, locals := 0 }) s m av below meth cd H locs 0 0 Q (F0 m 0 ls []) by rw [eH, eL] at hgo; exact hgo
  clear eH eL
  refine lv_aload_n hx hb dX4_isFine_0 rfl (lv_at hl 0 rfl) ?_
  refine lv_iload_n hx hb dX4_isFine_1 rfl (lv_at hl 1 rfl) ?_
  refine r_put (C := RX4) (T := TX4) (M := 9) (index := 31) (fd := "thrown") (f' := mF cI ad (nI 0) n y) hx hb hts (by decide +kernel) tyX4 tyX4_ok nmX4 hown hK hP hD hS 0 (by decide) mF_0 rfl 0 (by decide) rfl (by decide +kernel) (Nat.le_of_ble_eq_true rfl) mF_th dX4_isFine_2 (fun H locs hP hS => ?_)
  refine lv_iload_n hx hb dX4_isFine_5 rfl (lv_at hl 1 rfl) ?_
  refine r_ifneN (a := 0) (tgt := 13) hx hb (by omega) dX4_isFine_6 (by decide) (fun h => absurd h (by omega)) (fun _ => ?_)
  refine lv_iconst (v := nI 1) hx hb dX4_isFine_9 (by decide) ?_
  refine lv_goto (tgt := 14) hx hb dX4_isFine_10 (by decide) ?_
  exact hret _ _ _ _ _ _ hP hS dX4_isFine_14 (rfl) (rfl)
set_option maxHeartbeats 4000000 in
set_option maxRecDepth 100000 in
theorem c_X4_isFine_1 (l : Launch) (D : va_G) (cI : ClassId) (cA : ClassId) (ad : Nat → Nat) (th : Int32) (n : Nat) (y : Nat → Nat → Int32) : Met l yX4_isFine wsX4_isFine ({ frames := 0, cells := 0, slots := 0, locals := 0 }) (va_Pc [.ref (ad 0), .int (nI 1)] (mX D cI cA ad th n y)) (qW D ad (mF cI ad (nI 1) n y) 8 (some (.int (bI false)))) 0 0 (wA ad 8) := by
  refine c_ofW (cc := cX4_isFine) (maxL := 2) (ret := .boolean) (by decide) rfl (nar_bI _) (Nat.le_of_ble_eq_true rfl) ?_
  intro p e s m av below meth cd Q hx hb hF hP hK hD hT hret ls hl
  have hown : s.vm.findClass RX4 = some m.cls := hF.2.2.2.1
  have hF : CallFix p m cd cX4_isFine 2 s av wsX4_isFine RX4 := hF
  have hts := hF.2.2.2.2
  have hl : lv_has ls 2 [(0, .ref (ad 0)), (1, .int (nI 1))] := hl
  obtain ⟨H, eH⟩ : ∃ H9 : Heap, H9 = s.heap := ⟨_, rfl⟩
  obtain ⟨locs, eL⟩ : ∃ L9 : List Loc, L9 = [] := ⟨_, rfl⟩
  have hS : sS (wA ad 8) s.heap H locs := by rw [eH, eL]; exact sS.rf
  rw [← eH] at hP
  suffices hgo : W p l e ({ frames := 0, cells := 0, slots := 0, locals := 0 }) s m av below meth cd H locs 0 0 Q (F0 m 0 ls []) by rw [eH, eL] at hgo; exact hgo
  clear eH eL
  refine lv_aload_n hx hb dX4_isFine_0 rfl (lv_at hl 0 rfl) ?_
  refine lv_iload_n hx hb dX4_isFine_1 rfl (lv_at hl 1 rfl) ?_
  refine r_put (C := RX4) (T := TX4) (M := 9) (index := 31) (fd := "thrown") (f' := mF cI ad (nI 1) n y) hx hb hts (by decide +kernel) tyX4 tyX4_ok nmX4 hown hK hP hD hS 0 (by decide) mF_0 rfl 0 (by decide) rfl (by decide +kernel) (Nat.le_of_ble_eq_true rfl) mF_th dX4_isFine_2 (fun H locs hP hS => ?_)
  refine lv_iload_n hx hb dX4_isFine_5 rfl (lv_at hl 1 rfl) ?_
  refine r_ifneN (a := 1) (tgt := 13) hx hb (by omega) dX4_isFine_6 (by decide) (fun _ => ?_) (fun h => absurd h (by omega))
  refine lv_iconst (v := nI 0) hx hb dX4_isFine_13 (by decide) ?_
  exact hret _ _ _ _ _ _ hP hS dX4_isFine_14 (rfl) (rfl)
set_option maxHeartbeats 4000000 in
set_option maxRecDepth 100000 in
theorem c_X4_isFine_2 (l : Launch) (D : va_G) (cI : ClassId) (cA : ClassId) (ad : Nat → Nat) (th : Int32) (n : Nat) (y : Nat → Nat → Int32) : Met l yX4_isFine wsX4_isFine ({ frames := 0, cells := 0, slots := 0, locals := 0 }) (va_Pc [.ref (ad 0), .int (nI 2)] (mX D cI cA ad th n y)) (qW D ad (mF cI ad (nI 2) n y) 8 (some (.int (bI false)))) 0 0 (wA ad 8) := by
  refine c_ofW (cc := cX4_isFine) (maxL := 2) (ret := .boolean) (by decide) rfl (nar_bI _) (Nat.le_of_ble_eq_true rfl) ?_
  intro p e s m av below meth cd Q hx hb hF hP hK hD hT hret ls hl
  have hown : s.vm.findClass RX4 = some m.cls := hF.2.2.2.1
  have hF : CallFix p m cd cX4_isFine 2 s av wsX4_isFine RX4 := hF
  have hts := hF.2.2.2.2
  have hl : lv_has ls 2 [(0, .ref (ad 0)), (1, .int (nI 2))] := hl
  obtain ⟨H, eH⟩ : ∃ H9 : Heap, H9 = s.heap := ⟨_, rfl⟩
  obtain ⟨locs, eL⟩ : ∃ L9 : List Loc, L9 = [] := ⟨_, rfl⟩
  have hS : sS (wA ad 8) s.heap H locs := by rw [eH, eL]; exact sS.rf
  rw [← eH] at hP
  suffices hgo : W p l e ({ frames := 0, cells := 0, slots := 0, locals := 0 }) s m av below meth cd H locs 0 0 Q (F0 m 0 ls []) by rw [eH, eL] at hgo; exact hgo
  clear eH eL
  refine lv_aload_n hx hb dX4_isFine_0 rfl (lv_at hl 0 rfl) ?_
  refine lv_iload_n hx hb dX4_isFine_1 rfl (lv_at hl 1 rfl) ?_
  refine r_put (C := RX4) (T := TX4) (M := 9) (index := 31) (fd := "thrown") (f' := mF cI ad (nI 2) n y) hx hb hts (by decide +kernel) tyX4 tyX4_ok nmX4 hown hK hP hD hS 0 (by decide) mF_0 rfl 0 (by decide) rfl (by decide +kernel) (Nat.le_of_ble_eq_true rfl) mF_th dX4_isFine_2 (fun H locs hP hS => ?_)
  refine lv_iload_n hx hb dX4_isFine_5 rfl (lv_at hl 1 rfl) ?_
  refine r_ifneN (a := 2) (tgt := 13) hx hb (by omega) dX4_isFine_6 (by decide) (fun _ => ?_) (fun h => absurd h (by omega))
  refine lv_iconst (v := nI 0) hx hb dX4_isFine_13 (by decide) ?_
  exact hret _ _ _ _ _ _ hP hS dX4_isFine_14 (rfl) (rfl)
set_option maxHeartbeats 4000000 in
set_option maxRecDepth 100000 in
theorem c_X4_isFine_3 (l : Launch) (D : va_G) (cI : ClassId) (cA : ClassId) (ad : Nat → Nat) (th : Int32) (n : Nat) (y : Nat → Nat → Int32) : Met l yX4_isFine wsX4_isFine ({ frames := 0, cells := 0, slots := 0, locals := 0 }) (va_Pc [.ref (ad 0), .int (nI 3)] (mX D cI cA ad th n y)) (qW D ad (mF cI ad (nI 3) n y) 8 (some (.int (bI false)))) 0 0 (wA ad 8) := by
  refine c_ofW (cc := cX4_isFine) (maxL := 2) (ret := .boolean) (by decide) rfl (nar_bI _) (Nat.le_of_ble_eq_true rfl) ?_
  intro p e s m av below meth cd Q hx hb hF hP hK hD hT hret ls hl
  have hown : s.vm.findClass RX4 = some m.cls := hF.2.2.2.1
  have hF : CallFix p m cd cX4_isFine 2 s av wsX4_isFine RX4 := hF
  have hts := hF.2.2.2.2
  have hl : lv_has ls 2 [(0, .ref (ad 0)), (1, .int (nI 3))] := hl
  obtain ⟨H, eH⟩ : ∃ H9 : Heap, H9 = s.heap := ⟨_, rfl⟩
  obtain ⟨locs, eL⟩ : ∃ L9 : List Loc, L9 = [] := ⟨_, rfl⟩
  have hS : sS (wA ad 8) s.heap H locs := by rw [eH, eL]; exact sS.rf
  rw [← eH] at hP
  suffices hgo : W p l e ({ frames := 0, cells := 0, slots := 0, locals := 0 }) s m av below meth cd H locs 0 0 Q (F0 m 0 ls []) by rw [eH, eL] at hgo; exact hgo
  clear eH eL
  refine lv_aload_n hx hb dX4_isFine_0 rfl (lv_at hl 0 rfl) ?_
  refine lv_iload_n hx hb dX4_isFine_1 rfl (lv_at hl 1 rfl) ?_
  refine r_put (C := RX4) (T := TX4) (M := 9) (index := 31) (fd := "thrown") (f' := mF cI ad (nI 3) n y) hx hb hts (by decide +kernel) tyX4 tyX4_ok nmX4 hown hK hP hD hS 0 (by decide) mF_0 rfl 0 (by decide) rfl (by decide +kernel) (Nat.le_of_ble_eq_true rfl) mF_th dX4_isFine_2 (fun H locs hP hS => ?_)
  refine lv_iload_n hx hb dX4_isFine_5 rfl (lv_at hl 1 rfl) ?_
  refine r_ifneN (a := 3) (tgt := 13) hx hb (by omega) dX4_isFine_6 (by decide) (fun _ => ?_) (fun h => absurd h (by omega))
  refine lv_iconst (v := nI 0) hx hb dX4_isFine_13 (by decide) ?_
  exact hret _ _ _ _ _ _ hP hS dX4_isFine_14 (rfl) (rfl)
set_option maxHeartbeats 4000000 in
set_option maxRecDepth 100000 in
theorem c_X4_thrown (l : Launch) (D : va_G) (cI : ClassId) (cA : ClassId) (ad : Nat → Nat) (th : Int32) (n : Nat) (y : Nat → Nat → Int32) : Met l yX4_thrown wsX4_thrown ({ frames := 0, cells := 0, slots := 0, locals := 0 }) (va_Pc [.ref (ad 0)] (mX D cI cA ad th n y)) (qR (some (.int th))) 0 0 nF := by
  refine c_ofR (cc := cX4_thrown) (maxL := 1) (ret := .int) (by decide) rfl rfl (Nat.le_of_ble_eq_true rfl) ?_
  intro p e s m av below meth cd Q hx hb hF hP hK hD hT hret ls hl
  have hown : s.vm.findClass RX4 = some m.cls := hF.2.2.2.1
  have hF : CallFix p m cd cX4_thrown 1 s av wsX4_thrown RX4 := hF
  have hts := hF.2.2.2.2
  have hl : lv_has ls 1 [(0, .ref (ad 0))] := hl
  refine lv_aload_n hx hb dX4_thrown_0 rfl (lv_at hl 0 rfl) ?_
  refine r_get (C := RX4) (T := TX4) (M := 9) (index := 31) (fd := "thrown") (fo := "I") hx hb hts (by decide +kernel) hown hK hP 0 (by decide) mF_0 rfl 0 (by decide) rfl (by decide +kernel) rfl dX4_thrown_1 ?_
  exact hret _ _ _ dX4_thrown_4 (rfl)
set_option maxHeartbeats 4000000 in
set_option maxRecDepth 100000 in
theorem c_X4_cards (l : Launch) (D : va_G) (cI : ClassId) (cA : ClassId) (ad : Nat → Nat) (th : Int32) (n : Nat) (y : Nat → Nat → Int32) : Met l yX4_cards wsX4_cards ({ frames := 0, cells := 0, slots := 0, locals := 0 }) (va_Pc [.ref (ad 0)] (mX D cI cA ad th n y)) (qW D ad (mF cI ad (nI 0) n y) 8 (some (.int (nI n)))) 0 0 (wA ad 8) := by
  refine c_ofW (cc := cX4_cards) (maxL := 1) (ret := .int) (by decide) rfl rfl (Nat.le_of_ble_eq_true rfl) ?_
  intro p e s m av below meth cd Q hx hb hF hP hK hD hT hret ls hl
  have hown : s.vm.findClass RX4 = some m.cls := hF.2.2.2.1
  have hF : CallFix p m cd cX4_cards 1 s av wsX4_cards RX4 := hF
  have hts := hF.2.2.2.2
  have hl : lv_has ls 1 [(0, .ref (ad 0))] := hl
  obtain ⟨H, eH⟩ : ∃ H9 : Heap, H9 = s.heap := ⟨_, rfl⟩
  obtain ⟨locs, eL⟩ : ∃ L9 : List Loc, L9 = [] := ⟨_, rfl⟩
  have hS : sS (wA ad 8) s.heap H locs := by rw [eH, eL]; exact sS.rf
  rw [← eH] at hP
  suffices hgo : W p l e ({ frames := 0, cells := 0, slots := 0, locals := 0 }) s m av below meth cd H locs 0 0 Q (F0 m 0 ls []) by rw [eH, eL] at hgo; exact hgo
  clear eH eL
  refine lv_aload_n hx hb dX4_cards_0 rfl (lv_at hl 0 rfl) ?_
  refine lv_iconst (v := nI 0) hx hb dX4_cards_1 (by decide) ?_
  refine r_put (C := RX4) (T := TX4) (M := 9) (index := 31) (fd := "thrown") (f' := mF cI ad (nI 0) n y) hx hb hts (by decide +kernel) tyX4 tyX4_ok nmX4 hown hK hP hD hS 0 (by decide) mF_0 rfl 0 (by decide) rfl (by decide +kernel) (Nat.le_of_ble_eq_true rfl) mF_th dX4_cards_2 (fun H locs hP hS => ?_)
  refine lv_aload_n hx hb dX4_cards_5 rfl (lv_at hl 0 rfl) ?_
  refine r_get (C := RX4) (T := TX4) (M := 9) (index := 35) (fd := "cards") (fo := "I") hx hb hts (by decide +kernel) hown hK hP 0 (by decide) mF_0 rfl 7 (by decide) rfl (by decide +kernel) rfl dX4_cards_6 ?_
  exact hret _ _ _ _ _ _ hP hS dX4_cards_9 (rfl) (rfl)
set_option maxHeartbeats 4000000 in
set_option maxRecDepth 100000 in
theorem c_X4_changes (l : Launch) (D : va_G) (cI : ClassId) (cA : ClassId) (ad : Nat → Nat) (th : Int32) (n : Nat) (y : Nat → Nat → Int32) (c : Nat) (hc : c < 24) (hn : n ≤ 24) : Met l yX4_changes wsX4_changes ({ frames := 0, cells := 0, slots := 0, locals := 0 }) (va_Pc [.ref (ad 0), .int (nI c)] (mX D cI cA ad th n y)) (qW D ad (mF cI ad th n (chF y c n)) 8 none) 0 0 (wA ad 8) := by
  refine c_ofV (cc := cX4_changes) (maxL := 3) (by decide) rfl (Nat.le_of_ble_eq_true rfl) ?_
  intro p e s m av below meth cd Q hx hb hF hP hK hD hT hret ls hl
  have hown : s.vm.findClass RX4 = some m.cls := hF.2.2.2.1
  have hF : CallFix p m cd cX4_changes 3 s av wsX4_changes RX4 := hF
  have hts := hF.2.2.2.2
  have hl : lv_has ls 3 [(0, .ref (ad 0)), (1, .int (nI c))] := hl
  obtain ⟨H, eH⟩ : ∃ H9 : Heap, H9 = s.heap := ⟨_, rfl⟩
  obtain ⟨locs, eL⟩ : ∃ L9 : List Loc, L9 = [] := ⟨_, rfl⟩
  have hS : sS (wA ad 8) s.heap H locs := by rw [eH, eL]; exact sS.rf
  rw [← eH] at hP
  suffices hgo : W p l e ({ frames := 0, cells := 0, slots := 0, locals := 0 }) s m av below meth cd H locs 0 0 Q (F0 m 0 ls []) by rw [eH, eL] at hgo; exact hgo
  clear eH eL
  refine lv_aload_n hx hb dX4_changes_0 rfl (lv_at hl 0 rfl) ?_
  refine r_get (C := RX4) (T := TX4) (M := 9) (index := 25) (fd := "forNow") (fo := "[I") hx hb hts (by decide +kernel) hown hK hP 0 (by decide) mF_0 rfl 6 (by decide) rfl (by decide +kernel) rfl dX4_changes_1 ?_
  refine lv_iload_n hx hb dX4_changes_4 rfl (lv_at hl 1 rfl) ?_
  refine lv_iconst (v := nI 0) hx hb dX4_changes_5 (by decide) ?_
  refine r_iast (f' := mF cI ad th n (up2 y 6 c (nI 0))) hx hb hK hP hD hS 6 0 (by omega) (mF_a 6 (by omega)) rfl (i := c) (by omega) (by decide) (mF_up (mF_a 6 (by omega)) (by decide)) dX4_changes_6 (fun H locs hP hS => ?_)
  refine lv_iconst (v := nI 0) hx hb dX4_changes_7 (by decide) ?_
  refine lv_istore_n (lv' := [(2, .int (nI 0)), (0, .ref (ad 0)), (1, .int (nI c))]) hx hb dX4_changes_8 rfl hl (by decide) rfl (fun ls hl => ?_)
  have hL9 : ∀ i : Nat, i ≤ n → ∀ (H : Heap) (locs : List Loc), va_P D vwCl (wl ad (mF cI ad th n (chF y c i)) 8) H → sS (wA ad 8) s.heap H locs → ∀ ls : Array Slot, lv_has ls 3 [(0, .ref (ad 0)), (1, .int (nI c)), (2, .int (nI i))] → W p l e ({ frames := 0, cells := 0, slots := 0, locals := 0 }) s m av below meth cd H locs 0 0 Q (F0 m 9 ls []) := by
    refine down (n) ?_ ?_
    · intro H locs hP hS ls hl
      refine lv_iload_n hx hb dX4_changes_9 rfl (lv_at hl 2 rfl) ?_
      refine lv_aload_n hx hb dX4_changes_10 rfl (lv_at hl 0 rfl) ?_
      refine r_get (C := RX4) (T := TX4) (M := 9) (index := 35) (fd := "cards") (fo := "I") hx hb hts (by decide +kernel) hown hK hP 0 (by decide) mF_0 rfl 7 (by decide) rfl (by decide +kernel) rfl dX4_changes_11 ?_
      refine r_cgeN (a := n) (b := n) (tgt := 37) hx hb (by omega) (by omega) dX4_changes_14 (by decide) (fun _ => ?_) (fun h => absurd h (by omega))
      exact hret _ _ _ _ _ hP hS dX4_changes_37 (rfl)
    · intro i hi9 ih9 H locs hP hS ls hl
      refine lv_iload_n hx hb dX4_changes_9 rfl (lv_at hl 2 rfl) ?_
      refine lv_aload_n hx hb dX4_changes_10 rfl (lv_at hl 0 rfl) ?_
      refine r_get (C := RX4) (T := TX4) (M := 9) (index := 35) (fd := "cards") (fo := "I") hx hb hts (by decide +kernel) hown hK hP 0 (by decide) mF_0 rfl 7 (by decide) rfl (by decide +kernel) rfl dX4_changes_11 ?_
      refine r_cgeN (a := i) (b := n) (tgt := 37) hx hb (by omega) (by omega) dX4_changes_14 (by decide) (fun h => absurd h (by omega)) (fun _ => ?_)
      refine lv_aload_n hx hb dX4_changes_17 rfl (lv_at hl 0 rfl) ?_
      refine r_get (C := RX4) (T := TX4) (M := 9) (index := 25) (fd := "forNow") (fo := "[I") hx hb hts (by decide +kernel) hown hK hP 0 (by decide) mF_0 rfl 6 (by decide) rfl (by decide +kernel) rfl dX4_changes_18 ?_
      refine lv_iload_n hx hb dX4_changes_21 rfl (lv_at hl 2 rfl) ?_
      refine lv_dup2_11 hx hb dX4_changes_22 rfl rfl ?_
      refine r_iald hx hb hK hP 6 0 (by omega) (mF_a 6 (by omega)) rfl (i := i) (by omega) (by decide) dX4_changes_23 ?_
      refine lv_iconst (v := nI 1) hx hb dX4_changes_24 (by decide) ?_
      refine lv_iload_n hx hb dX4_changes_25 rfl (lv_at hl 1 rfl) ?_
      refine r_bit hx hb dX4_changes_26 ?_
      refine lv_iconst (v := (-1)) hx hb dX4_changes_27 (by decide) ?_
      refine lv_ixor hx hb dX4_changes_28 ?_
      refine lv_iand hx hb dX4_changes_29 ?_
      refine r_iast (f' := mF cI ad th n (up2 (chF y c i) 6 i (((chF y c i) 6 i) &&& ((bit c) ^^^ ((-1)))))) hx hb hK hP hD hS 6 0 (by omega) (mF_a 6 (by omega)) rfl (i := i) (by omega) (by decide) (mF_up (mF_a 6 (by omega)) (by decide)) dX4_changes_30 (fun H locs hP hS => ?_)
      refine r_iincN (k := 2) (a := i) (d := 1) (r := i + 1) (lv' := [(2, .int (nI (i + 1))), (0, .ref (ad 0)), (1, .int (nI c))]) hx hb dX4_changes_31 hl rfl (by omega) (by decide) rfl (fun ls hl => ?_)
      refine lv_goto (tgt := 9) hx hb dX4_changes_34 (by decide) ?_
      exact ih9 _ _ (by rw [show mF cI ad th n (chF y c (i + 1)) = mF cI ad th n (up2 (chF y c i) 6 i (((chF y c i) 6 i) &&& ((bit c) ^^^ ((-1))))) from rfl]; exact hP) hS _ (lv_sub hl [1, 2, 0] rfl)
  exact hL9 0 (Nat.zero_le _) _ _ (by rw [show mF cI ad th n (chF y c 0) = mF cI ad th n (up2 y 6 c (nI 0)) from rfl]; exact hP) hS _ (lv_sub hl [1, 2, 0] rfl)
set_option maxHeartbeats 4000000 in
set_option maxRecDepth 100000 in
theorem c_X4_sets (l : Launch) (D : va_G) (cI : ClassId) (cA : ClassId) (ad : Nat → Nat) (th : Int32) (n : Nat) (y : Nat → Nat → Int32) (c : Nat) (v : Nat) (k : Nat) (w : Int32) (hc : c < 24) (hv : v < 3) (hk : k < 2) (hn : n ≤ 24) : Met l yX4_sets wsX4_sets ({ frames := 1, cells := 0, slots := 0, locals := 22 }) (va_Pc [.ref (ad 0), .int (nI c), .int (nI v), .int (nI k), .int w] (mX D cI cA ad th n y)) (qW D ad (mF cI ad th n (mputS y n c v k w)) 8 none) 0 0 (wA ad 8) := by
  refine c_ofV (cc := cX4_sets) (maxL := 5) (by decide) rfl (Nat.le_of_ble_eq_true rfl) ?_
  intro p e s m av below meth cd Q hx hb hF hP hK hD hT hret ls hl
  have hown : s.vm.findClass RX4 = some m.cls := hF.2.2.2.1
  have hF : CallFix p m cd cX4_sets 5 s av wsX4_sets RX4 := hF
  have hts := hF.2.2.2.2
  have hl : lv_has ls 5 [(0, .ref (ad 0)), (1, .int (nI c)), (2, .int (nI v)), (3, .int (nI k)), (4, .int w)] := hl
  obtain ⟨H, eH⟩ : ∃ H9 : Heap, H9 = s.heap := ⟨_, rfl⟩
  obtain ⟨locs, eL⟩ : ∃ L9 : List Loc, L9 = [] := ⟨_, rfl⟩
  have hS : sS (wA ad 8) s.heap H locs := by rw [eH, eL]; exact sS.rf
  rw [← eH] at hP
  suffices hgo : W p l e ({ frames := 1, cells := 0, slots := 0, locals := 22 }) s m av below meth cd H locs 0 0 Q (F0 m 0 ls []) by rw [eH, eL] at hgo; exact hgo
  clear eH eL
  refine lv_iload_n hx hb dX4_sets_0 rfl (lv_at hl 2 rfl) ?_
  refine r_ifneN (a := v) (tgt := 25) hx hb (by omega) dX4_sets_1 (by decide) (fun h1_1 => ?_) (fun h1_1 => ?_)
  · refine lv_aload_n hx hb dX4_sets_25 rfl (lv_at hl 0 rfl) ?_
    refine r_get (C := RX4) (T := TX4) (M := 9) (index := 16) (fd := "set") (fo := "[I") hx hb hts (by decide +kernel) hown hK hP 0 (by decide) mF_0 rfl 3 (by decide) rfl (by decide +kernel) rfl dX4_sets_26 ?_
    refine lv_iload_n hx hb dX4_sets_29 rfl (lv_at hl 1 rfl) ?_
    refine lv_iload_n hx hb dX4_sets_30 rfl (lv_at hl 2 rfl) ?_
    refine lv_iload_n hx hb dX4_sets_31 rfl (lv_at hl 3 rfl) ?_
    refine k_Ri (va_runS (As := [.int (nI c), .int (nI v), .int (nI k)]) (rest := [.ref (ad 3)]) hF (c_X4_at l c v k hc hv hk) (va_cwS 3 hts gX4_sets_X4_at rfl rfl rfl (by decide +kernel) ⟨(Nat.le_of_ble_eq_true rfl), (Nat.le_of_ble_eq_true rfl)⟩) k_preS rfl rfl hl.1 rfl (lv_room (Nat.le_of_ble_eq_true rfl)) dX4_sets_32 ⟨Nat.zero_le _, Nat.zero_le _⟩) ?_
    refine lv_iload hx hb dX4_sets_35 (lv_at hl 4 rfl) ?_
    refine r_iast (f' := mF cI ad th n (up2 y 3 (6 * c + 2 * v + k) w)) hx hb hK hP hD hS 3 0 (by omega) mF_3 rfl (i := 6 * c + 2 * v + k) (by omega) (by decide) (mF_up mF_3 (by decide)) dX4_sets_37 (fun H locs hP hS => ?_)
    exact hret _ _ _ _ _ hP hS dX4_sets_38 (by first | rw [mputS_a (by assumption) (by assumption)] | rw [mputS_b (by assumption)] | rw [mputS_c (by assumption)])
  · refine lv_aload_n hx hb dX4_sets_4 rfl (lv_at hl 0 rfl) ?_
    refine r_get (C := RX4) (T := TX4) (M := 9) (index := 16) (fd := "set") (fo := "[I") hx hb hts (by decide +kernel) hown hK hP 0 (by decide) mF_0 rfl 3 (by decide) rfl (by decide +kernel) rfl dX4_sets_5 ?_
    refine lv_iload_n hx hb dX4_sets_8 rfl (lv_at hl 1 rfl) ?_
    refine lv_iload_n hx hb dX4_sets_9 rfl (lv_at hl 2 rfl) ?_
    refine lv_iload_n hx hb dX4_sets_10 rfl (lv_at hl 3 rfl) ?_
    refine k_Ri (va_runS (As := [.int (nI c), .int (nI v), .int (nI k)]) (rest := [.ref (ad 3)]) hF (c_X4_at l c v k hc hv hk) (va_cwS 3 hts gX4_sets_X4_at rfl rfl rfl (by decide +kernel) ⟨(Nat.le_of_ble_eq_true rfl), (Nat.le_of_ble_eq_true rfl)⟩) k_preS rfl rfl hl.1 rfl (lv_room (Nat.le_of_ble_eq_true rfl)) dX4_sets_11 ⟨Nat.zero_le _, Nat.zero_le _⟩) ?_
    refine r_iald hx hb hK hP 3 0 (by omega) mF_3 rfl (i := 6 * c + 2 * v + k) (by omega) (by decide) dX4_sets_14 ?_
    refine lv_iload hx hb dX4_sets_15 (lv_at hl 4 rfl) ?_
    refine lv_icmp_eq (tgt := 25) hx hb dX4_sets_17 (by decide) (fun h17_2 => ?_) (fun h17_2 => ?_)
    · refine lv_aload_n hx hb dX4_sets_25 rfl (lv_at hl 0 rfl) ?_
      refine r_get (C := RX4) (T := TX4) (M := 9) (index := 16) (fd := "set") (fo := "[I") hx hb hts (by decide +kernel) hown hK hP 0 (by decide) mF_0 rfl 3 (by decide) rfl (by decide +kernel) rfl dX4_sets_26 ?_
      refine lv_iload_n hx hb dX4_sets_29 rfl (lv_at hl 1 rfl) ?_
      refine lv_iload_n hx hb dX4_sets_30 rfl (lv_at hl 2 rfl) ?_
      refine lv_iload_n hx hb dX4_sets_31 rfl (lv_at hl 3 rfl) ?_
      refine k_Ri (va_runS (As := [.int (nI c), .int (nI v), .int (nI k)]) (rest := [.ref (ad 3)]) hF (c_X4_at l c v k hc hv hk) (va_cwS 3 hts gX4_sets_X4_at rfl rfl rfl (by decide +kernel) ⟨(Nat.le_of_ble_eq_true rfl), (Nat.le_of_ble_eq_true rfl)⟩) k_preS rfl rfl hl.1 rfl (lv_room (Nat.le_of_ble_eq_true rfl)) dX4_sets_32 ⟨Nat.zero_le _, Nat.zero_le _⟩) ?_
      refine lv_iload hx hb dX4_sets_35 (lv_at hl 4 rfl) ?_
      refine r_iast (f' := mF cI ad th n (up2 y 3 (6 * c + 2 * v + k) w)) hx hb hK hP hD hS 3 0 (by omega) mF_3 rfl (i := 6 * c + 2 * v + k) (by omega) (by decide) (mF_up mF_3 (by decide)) dX4_sets_37 (fun H locs hP hS => ?_)
      exact hret _ _ _ _ _ hP hS dX4_sets_38 (by first | rw [mputS_a (by assumption) (by assumption)] | rw [mputS_b (by assumption)] | rw [mputS_c (by assumption)])
    · refine lv_aload_n hx hb dX4_sets_20 rfl (lv_at hl 0 rfl) ?_
      refine lv_iload_n hx hb dX4_sets_21 rfl (lv_at hl 1 rfl) ?_
      refine k_Wv (va_runV (As := [.int (nI c)]) (rest := []) hF (c_X4_changes l D cI cA ad th n y c hc hn) (cwV 1 hts gX4_sets_X4_changes rfl rfl rfl (by decide +kernel) ⟨(Nat.le_of_ble_eq_true rfl), (Nat.le_of_ble_eq_true rfl)⟩) (k_pre hP hK hD hT (k := 0) (by decide) mF_0 rfl) rfl rfl hl.1 rfl (lv_room (Nat.le_of_ble_eq_true rfl)) dX4_sets_22 ⟨Nat.zero_le _, Nat.zero_le _⟩) hD hS (fun H locs hP hS => ?_)
      refine lv_aload_n hx hb dX4_sets_25 rfl (lv_at hl 0 rfl) ?_
      refine r_get (C := RX4) (T := TX4) (M := 9) (index := 16) (fd := "set") (fo := "[I") hx hb hts (by decide +kernel) hown hK hP 0 (by decide) mF_0 rfl 3 (by decide) rfl (by decide +kernel) rfl dX4_sets_26 ?_
      refine lv_iload_n hx hb dX4_sets_29 rfl (lv_at hl 1 rfl) ?_
      refine lv_iload_n hx hb dX4_sets_30 rfl (lv_at hl 2 rfl) ?_
      refine lv_iload_n hx hb dX4_sets_31 rfl (lv_at hl 3 rfl) ?_
      refine k_Ri (va_runS (As := [.int (nI c), .int (nI v), .int (nI k)]) (rest := [.ref (ad 3)]) hF (c_X4_at l c v k hc hv hk) (va_cwS 3 hts gX4_sets_X4_at rfl rfl rfl (by decide +kernel) ⟨(Nat.le_of_ble_eq_true rfl), (Nat.le_of_ble_eq_true rfl)⟩) k_preS rfl rfl hl.1 rfl (lv_room (Nat.le_of_ble_eq_true rfl)) dX4_sets_32 ⟨Nat.zero_le _, Nat.zero_le _⟩) ?_
      refine lv_iload hx hb dX4_sets_35 (lv_at hl 4 rfl) ?_
      refine r_iast (f' := mF cI ad th n (up2 (chF y c n) 3 (6 * c + 2 * v + k) w)) hx hb hK hP hD hS 3 0 (by omega) mF_3 rfl (i := 6 * c + 2 * v + k) (by omega) (by decide) (mF_up mF_3 (by decide)) dX4_sets_37 (fun H locs hP hS => ?_)
      exact hret _ _ _ _ _ hP hS dX4_sets_38 (by first | rw [mputS_a (by assumption) (by assumption)] | rw [mputS_b (by assumption)] | rw [mputS_c (by assumption)])
set_option maxHeartbeats 4000000 in
set_option maxRecDepth 100000 in
theorem c_X4_names (l : Launch) (D : va_G) (cI : ClassId) (cA : ClassId) (ad : Nat → Nat) (th : Int32) (n : Nat) (y : Nat → Nat → Int32) (c : Nat) (v : Nat) (w : Int32) (hc : c < 24) (hv : v < 3) (hn : n ≤ 24) : Met l yX4_names wsX4_names ({ frames := 1, cells := 0, slots := 0, locals := 22 }) (va_Pc [.ref (ad 0), .int (nI c), .int (nI v), .int w] (mX D cI cA ad th n y)) (qW D ad (mF cI ad th n (mputN y n c v w)) 8 none) 0 0 (wA ad 8) := by
  refine c_ofV (cc := cX4_names) (maxL := 4) (by decide) rfl (Nat.le_of_ble_eq_true rfl) ?_
  intro p e s m av below meth cd Q hx hb hF hP hK hD hT hret ls hl
  have hown : s.vm.findClass RX4 = some m.cls := hF.2.2.2.1
  have hF : CallFix p m cd cX4_names 4 s av wsX4_names RX4 := hF
  have hts := hF.2.2.2.2
  have hl : lv_has ls 4 [(0, .ref (ad 0)), (1, .int (nI c)), (2, .int (nI v)), (3, .int w)] := hl
  obtain ⟨H, eH⟩ : ∃ H9 : Heap, H9 = s.heap := ⟨_, rfl⟩
  obtain ⟨locs, eL⟩ : ∃ L9 : List Loc, L9 = [] := ⟨_, rfl⟩
  have hS : sS (wA ad 8) s.heap H locs := by rw [eH, eL]; exact sS.rf
  rw [← eH] at hP
  suffices hgo : W p l e ({ frames := 1, cells := 0, slots := 0, locals := 22 }) s m av below meth cd H locs 0 0 Q (F0 m 0 ls []) by rw [eH, eL] at hgo; exact hgo
  clear eH eL
  refine lv_iload_n hx hb dX4_names_0 rfl (lv_at hl 2 rfl) ?_
  refine r_ifneN (a := v) (tgt := 23) hx hb (by omega) dX4_names_1 (by decide) (fun h1_1 => ?_) (fun h1_1 => ?_)
  · refine lv_aload_n hx hb dX4_names_23 rfl (lv_at hl 0 rfl) ?_
    refine r_get (C := RX4) (T := TX4) (M := 9) (index := 13) (fd := "name") (fo := "[I") hx hb hts (by decide +kernel) hown hK hP 0 (by decide) mF_0 rfl 2 (by decide) rfl (by decide +kernel) rfl dX4_names_24 ?_
    refine lv_iconst (v := nI 3) hx hb dX4_names_27 (by decide) ?_
    refine lv_iload_n hx hb dX4_names_28 rfl (lv_at hl 1 rfl) ?_
    refine r_mulN (a := 3) (b := c) (r := 3 * c) hx hb dX4_names_29 (by omega) ?_
    refine lv_iload_n hx hb dX4_names_30 rfl (lv_at hl 2 rfl) ?_
    refine r_addN (a := 3 * c) (b := v) (r := 3 * c + v) hx hb dX4_names_31 (by omega) ?_
    refine lv_iload_n hx hb dX4_names_32 rfl (lv_at hl 3 rfl) ?_
    refine r_iast (f' := mF cI ad th n (up2 y 2 (3 * c + v) w)) hx hb hK hP hD hS 2 0 (by omega) mF_2 rfl (i := 3 * c + v) (by omega) (by decide) (mF_up mF_2 (by decide)) dX4_names_33 (fun H locs hP hS => ?_)
    exact hret _ _ _ _ _ hP hS dX4_names_34 (by first | rw [mputN_a (by assumption) (by assumption)] | rw [mputN_b (by assumption)] | rw [mputN_c (by assumption)])
  · refine lv_aload_n hx hb dX4_names_4 rfl (lv_at hl 0 rfl) ?_
    refine r_get (C := RX4) (T := TX4) (M := 9) (index := 13) (fd := "name") (fo := "[I") hx hb hts (by decide +kernel) hown hK hP 0 (by decide) mF_0 rfl 2 (by decide) rfl (by decide +kernel) rfl dX4_names_5 ?_
    refine lv_iconst (v := nI 3) hx hb dX4_names_8 (by decide) ?_
    refine lv_iload_n hx hb dX4_names_9 rfl (lv_at hl 1 rfl) ?_
    refine r_mulN (a := 3) (b := c) (r := 3 * c) hx hb dX4_names_10 (by omega) ?_
    refine lv_iload_n hx hb dX4_names_11 rfl (lv_at hl 2 rfl) ?_
    refine r_addN (a := 3 * c) (b := v) (r := 3 * c + v) hx hb dX4_names_12 (by omega) ?_
    refine r_iald hx hb hK hP 2 0 (by omega) mF_2 rfl (i := 3 * c + v) (by omega) (by decide) dX4_names_13 ?_
    refine lv_iload_n hx hb dX4_names_14 rfl (lv_at hl 3 rfl) ?_
    refine lv_icmp_eq (tgt := 23) hx hb dX4_names_15 (by decide) (fun h15_2 => ?_) (fun h15_2 => ?_)
    · refine lv_aload_n hx hb dX4_names_23 rfl (lv_at hl 0 rfl) ?_
      refine r_get (C := RX4) (T := TX4) (M := 9) (index := 13) (fd := "name") (fo := "[I") hx hb hts (by decide +kernel) hown hK hP 0 (by decide) mF_0 rfl 2 (by decide) rfl (by decide +kernel) rfl dX4_names_24 ?_
      refine lv_iconst (v := nI 3) hx hb dX4_names_27 (by decide) ?_
      refine lv_iload_n hx hb dX4_names_28 rfl (lv_at hl 1 rfl) ?_
      refine r_mulN (a := 3) (b := c) (r := 3 * c) hx hb dX4_names_29 (by omega) ?_
      refine lv_iload_n hx hb dX4_names_30 rfl (lv_at hl 2 rfl) ?_
      refine r_addN (a := 3 * c) (b := v) (r := 3 * c + v) hx hb dX4_names_31 (by omega) ?_
      refine lv_iload_n hx hb dX4_names_32 rfl (lv_at hl 3 rfl) ?_
      refine r_iast (f' := mF cI ad th n (up2 y 2 (3 * c + v) w)) hx hb hK hP hD hS 2 0 (by omega) mF_2 rfl (i := 3 * c + v) (by omega) (by decide) (mF_up mF_2 (by decide)) dX4_names_33 (fun H locs hP hS => ?_)
      exact hret _ _ _ _ _ hP hS dX4_names_34 (by first | rw [mputN_a (by assumption) (by assumption)] | rw [mputN_b (by assumption)] | rw [mputN_c (by assumption)])
    · refine lv_aload_n hx hb dX4_names_18 rfl (lv_at hl 0 rfl) ?_
      refine lv_iload_n hx hb dX4_names_19 rfl (lv_at hl 1 rfl) ?_
      refine k_Wv (va_runV (As := [.int (nI c)]) (rest := []) hF (c_X4_changes l D cI cA ad th n y c hc hn) (cwV 1 hts gX4_names_X4_changes rfl rfl rfl (by decide +kernel) ⟨(Nat.le_of_ble_eq_true rfl), (Nat.le_of_ble_eq_true rfl)⟩) (k_pre hP hK hD hT (k := 0) (by decide) mF_0 rfl) rfl rfl hl.1 rfl (lv_room (Nat.le_of_ble_eq_true rfl)) dX4_names_20 ⟨Nat.zero_le _, Nat.zero_le _⟩) hD hS (fun H locs hP hS => ?_)
      refine lv_aload_n hx hb dX4_names_23 rfl (lv_at hl 0 rfl) ?_
      refine r_get (C := RX4) (T := TX4) (M := 9) (index := 13) (fd := "name") (fo := "[I") hx hb hts (by decide +kernel) hown hK hP 0 (by decide) mF_0 rfl 2 (by decide) rfl (by decide +kernel) rfl dX4_names_24 ?_
      refine lv_iconst (v := nI 3) hx hb dX4_names_27 (by decide) ?_
      refine lv_iload_n hx hb dX4_names_28 rfl (lv_at hl 1 rfl) ?_
      refine r_mulN (a := 3) (b := c) (r := 3 * c) hx hb dX4_names_29 (by omega) ?_
      refine lv_iload_n hx hb dX4_names_30 rfl (lv_at hl 2 rfl) ?_
      refine r_addN (a := 3 * c) (b := v) (r := 3 * c + v) hx hb dX4_names_31 (by omega) ?_
      refine lv_iload_n hx hb dX4_names_32 rfl (lv_at hl 3 rfl) ?_
      refine r_iast (f' := mF cI ad th n (up2 (chF y c n) 2 (3 * c + v) w)) hx hb hK hP hD hS 2 0 (by omega) mF_2 rfl (i := 3 * c + v) (by omega) (by decide) (mF_up mF_2 (by decide)) dX4_names_33 (fun H locs hP hS => ?_)
      exact hret _ _ _ _ _ hP hS dX4_names_34 (by first | rw [mputN_a (by assumption) (by assumption)] | rw [mputN_b (by assumption)] | rw [mputN_c (by assumption)])
set_option maxHeartbeats 4000000 in
set_option maxRecDepth 100000 in
theorem c_X4_mergedOf (l : Launch) (D : va_G) (cI : ClassId) (cA : ClassId) (ad : Nat → Nat) (th : Int32) (n : Nat) (y : Nat → Nat → Int32) (c : Nat) (k : Nat) (hc : c < 24) (hk : k < 2) : Met l yX4_mergedOf wsX4_mergedOf ({ frames := 1, cells := 0, slots := 0, locals := 22 }) (va_Pc [.ref (ad 0), .int (nI c), .int (nI k)] (mX D cI cA ad th n y)) (qR (some (.int (mSt y c k)))) 0 0 nF := by
  refine c_ofR (cc := cX4_mergedOf) (maxL := 5) (ret := .int) (by decide) rfl rfl (Nat.le_of_ble_eq_true rfl) ?_
  intro p e s m av below meth cd Q hx hb hF hP hK hD hT hret ls hl
  have hown : s.vm.findClass RX4 = some m.cls := hF.2.2.2.1
  have hF : CallFix p m cd cX4_mergedOf 5 s av wsX4_mergedOf RX4 := hF
  have hts := hF.2.2.2.2
  have hl : lv_has ls 5 [(0, .ref (ad 0)), (1, .int (nI c)), (2, .int (nI k))] := hl
  refine lv_aload_n hx hb dX4_mergedOf_0 rfl (lv_at hl 0 rfl) ?_
  refine r_get (C := RX4) (T := TX4) (M := 9) (index := 16) (fd := "set") (fo := "[I") hx hb hts (by decide +kernel) hown hK hP 0 (by decide) mF_0 rfl 3 (by decide) rfl (by decide +kernel) rfl dX4_mergedOf_1 ?_
  refine lv_iload_n hx hb dX4_mergedOf_4 rfl (lv_at hl 1 rfl) ?_
  refine lv_iconst (v := nI 0) hx hb dX4_mergedOf_5 (by decide) ?_
  refine lv_iload_n hx hb dX4_mergedOf_6 rfl (lv_at hl 2 rfl) ?_
  refine k_Ri (va_runS (As := [.int (nI c), .int (nI 0), .int (nI k)]) (rest := [.ref (ad 3)]) hF (c_X4_at l c 0 k hc (by omega) hk) (va_cwS 3 hts gX4_mergedOf_X4_at rfl rfl rfl (by decide +kernel) ⟨(Nat.le_of_ble_eq_true rfl), (Nat.le_of_ble_eq_true rfl)⟩) k_preS rfl rfl hl.1 rfl (lv_room (Nat.le_of_ble_eq_true rfl)) dX4_mergedOf_7 ⟨Nat.zero_le _, Nat.zero_le _⟩) ?_
  refine r_topi (show (nI (6 * c + 2 * 0 + k) : Int32) = nI (6 * c + k) from congrArg nI (by omega)) ?_
  refine r_iald hx hb hK hP 3 0 (by omega) mF_3 rfl (i := 6 * c + k) (by omega) (by decide) dX4_mergedOf_10 ?_
  refine lv_istore_n (lv' := [(3, .int (y 3 (6 * c + k))), (0, .ref (ad 0)), (1, .int (nI c)), (2, .int (nI k))]) hx hb dX4_mergedOf_11 rfl hl (by decide) rfl (fun ls hl => ?_)
  refine lv_aload_n hx hb dX4_mergedOf_12 rfl (lv_at hl 1 rfl) ?_
  refine r_get (C := RX4) (T := TX4) (M := 9) (index := 16) (fd := "set") (fo := "[I") hx hb hts (by decide +kernel) hown hK hP 0 (by decide) mF_0 rfl 3 (by decide) rfl (by decide +kernel) rfl dX4_mergedOf_13 ?_
  refine lv_iload_n hx hb dX4_mergedOf_16 rfl (lv_at hl 2 rfl) ?_
  refine lv_iconst (v := nI 1) hx hb dX4_mergedOf_17 (by decide) ?_
  refine lv_iload_n hx hb dX4_mergedOf_18 rfl (lv_at hl 3 rfl) ?_
  refine k_Ri (va_runS (As := [.int (nI c), .int (nI 1), .int (nI k)]) (rest := [.ref (ad 3)]) hF (c_X4_at l c 1 k hc (by omega) hk) (va_cwS 3 hts gX4_mergedOf_X4_at rfl rfl rfl (by decide +kernel) ⟨(Nat.le_of_ble_eq_true rfl), (Nat.le_of_ble_eq_true rfl)⟩) k_preS rfl rfl hl.1 rfl (lv_room (Nat.le_of_ble_eq_true rfl)) dX4_mergedOf_19 ⟨Nat.zero_le _, Nat.zero_le _⟩) ?_
  refine r_topi (show (nI (6 * c + 2 * 1 + k) : Int32) = nI (6 * c + k + 2) from congrArg nI (by omega)) ?_
  refine r_iald hx hb hK hP 3 0 (by omega) mF_3 rfl (i := 6 * c + k + 2) (by omega) (by decide) dX4_mergedOf_22 ?_
  refine lv_istore (lv' := [(4, .int (y 3 (6 * c + k + 2))), (3, .int (y 3 (6 * c + k))), (0, .ref (ad 0)), (1, .int (nI c)), (2, .int (nI k))]) hx hb dX4_mergedOf_23 hl (by decide) rfl (fun ls hl => ?_)
  refine lv_iload_n hx hb dX4_mergedOf_25 rfl (lv_at hl 1 rfl) ?_
  refine lv_iload hx hb dX4_mergedOf_26 (lv_at hl 0 rfl) ?_
  refine lv_iand hx hb dX4_mergedOf_28 ?_
  refine lv_iload_n hx hb dX4_mergedOf_29 rfl (lv_at hl 1 rfl) ?_
  refine lv_iload hx hb dX4_mergedOf_30 (lv_at hl 0 rfl) ?_
  refine lv_ixor hx hb dX4_mergedOf_32 ?_
  refine lv_aload_n hx hb dX4_mergedOf_33 rfl (lv_at hl 2 rfl) ?_
  refine r_get (C := RX4) (T := TX4) (M := 9) (index := 16) (fd := "set") (fo := "[I") hx hb hts (by decide +kernel) hown hK hP 0 (by decide) mF_0 rfl 3 (by decide) rfl (by decide +kernel) rfl dX4_mergedOf_34 ?_
  refine lv_iload_n hx hb dX4_mergedOf_37 rfl (lv_at hl 3 rfl) ?_
  refine lv_iconst (v := nI 2) hx hb dX4_mergedOf_38 (by decide) ?_
  refine lv_iload_n hx hb dX4_mergedOf_39 rfl (lv_at hl 4 rfl) ?_
  refine k_Ri (va_runS (As := [.int (nI c), .int (nI 2), .int (nI k)]) (rest := [.ref (ad 3), .int ((y 3 (6 * c + k)) ^^^ (y 3 (6 * c + k + 2))), .int ((y 3 (6 * c + k)) &&& (y 3 (6 * c + k + 2)))]) hF (c_X4_at l c 2 k hc (by omega) hk) (va_cwS 3 hts gX4_mergedOf_X4_at rfl rfl rfl (by decide +kernel) ⟨(Nat.le_of_ble_eq_true rfl), (Nat.le_of_ble_eq_true rfl)⟩) k_preS rfl rfl hl.1 rfl (lv_room (Nat.le_of_ble_eq_true rfl)) dX4_mergedOf_40 ⟨Nat.zero_le _, Nat.zero_le _⟩) ?_
  refine r_topi (show (nI (6 * c + 2 * 2 + k) : Int32) = nI (6 * c + k + 4) from congrArg nI (by omega)) ?_
  refine r_iald hx hb hK hP 3 0 (by omega) mF_3 rfl (i := 6 * c + k + 4) (by omega) (by decide) dX4_mergedOf_43 ?_
  refine lv_iconst (v := (-1)) hx hb dX4_mergedOf_44 (by decide) ?_
  refine lv_ixor hx hb dX4_mergedOf_45 ?_
  refine lv_iand hx hb dX4_mergedOf_46 ?_
  refine lv_ior hx hb dX4_mergedOf_47 ?_
  exact hret _ _ _ dX4_mergedOf_48 (rfl)
set_option maxHeartbeats 4000000 in
set_option maxRecDepth 100000 in
theorem c_X4_mergedName (l : Launch) (D : va_G) (cI : ClassId) (cA : ClassId) (ad : Nat → Nat) (th : Int32) (n : Nat) (y : Nat → Nat → Int32) (c : Nat) (hc : c < 24) : Met l yX4_mergedName wsX4_mergedName ({ frames := 0, cells := 0, slots := 0, locals := 0 }) (va_Pc [.ref (ad 0), .int (nI c)] (mX D cI cA ad th n y)) (qR (some (.int (mNm y c)))) 0 0 nF := by
  refine c_ofR (cc := cX4_mergedName) (maxL := 3) (ret := .int) (by decide) rfl rfl (Nat.le_of_ble_eq_true rfl) ?_
  intro p e s m av below meth cd Q hx hb hF hP hK hD hT hret ls hl
  have hown : s.vm.findClass RX4 = some m.cls := hF.2.2.2.1
  have hF : CallFix p m cd cX4_mergedName 3 s av wsX4_mergedName RX4 := hF
  have hts := hF.2.2.2.2
  have hl : lv_has ls 3 [(0, .ref (ad 0)), (1, .int (nI c))] := hl
  refine lv_aload_n hx hb dX4_mergedName_0 rfl (lv_at hl 0 rfl) ?_
  refine r_get (C := RX4) (T := TX4) (M := 9) (index := 13) (fd := "name") (fo := "[I") hx hb hts (by decide +kernel) hown hK hP 0 (by decide) mF_0 rfl 2 (by decide) rfl (by decide +kernel) rfl dX4_mergedName_1 ?_
  refine lv_iconst (v := nI 3) hx hb dX4_mergedName_4 (by decide) ?_
  refine lv_iload_n hx hb dX4_mergedName_5 rfl (lv_at hl 1 rfl) ?_
  refine r_mulN (a := 3) (b := c) (r := 3 * c) hx hb dX4_mergedName_6 (by omega) ?_
  refine lv_iconst (v := nI 0) hx hb dX4_mergedName_7 (by decide) ?_
  refine r_addN (a := 3 * c) (b := 0) (r := 3 * c) hx hb dX4_mergedName_8 (by omega) ?_
  refine r_iald hx hb hK hP 2 0 (by omega) mF_2 rfl (i := 3 * c) (by omega) (by decide) dX4_mergedName_9 ?_
  refine lv_istore_n (lv' := [(2, .int (y 2 (3 * c))), (0, .ref (ad 0)), (1, .int (nI c))]) hx hb dX4_mergedName_10 rfl hl (by decide) rfl (fun ls hl => ?_)
  refine lv_iload_n hx hb dX4_mergedName_11 rfl (lv_at hl 0 rfl) ?_
  refine lv_aload_n hx hb dX4_mergedName_12 rfl (lv_at hl 1 rfl) ?_
  refine r_get (C := RX4) (T := TX4) (M := 9) (index := 13) (fd := "name") (fo := "[I") hx hb hts (by decide +kernel) hown hK hP 0 (by decide) mF_0 rfl 2 (by decide) rfl (by decide +kernel) rfl dX4_mergedName_13 ?_
  refine lv_iconst (v := nI 3) hx hb dX4_mergedName_16 (by decide) ?_
  refine lv_iload_n hx hb dX4_mergedName_17 rfl (lv_at hl 2 rfl) ?_
  refine r_mulN (a := 3) (b := c) (r := 3 * c) hx hb dX4_mergedName_18 (by omega) ?_
  refine lv_iconst (v := nI 2) hx hb dX4_mergedName_19 (by decide) ?_
  refine r_addN (a := 3 * c) (b := 2) (r := 3 * c + 2) hx hb dX4_mergedName_20 (by omega) ?_
  refine r_iald hx hb hK hP 2 0 (by omega) mF_2 rfl (i := 3 * c + 2) (by omega) (by decide) dX4_mergedName_21 ?_
  refine lv_icmp_ne (tgt := 38) hx hb dX4_mergedName_22 (by decide) (fun h22_1 => ?_) (fun h22_1 => ?_)
  · refine lv_iload_n hx hb dX4_mergedName_38 rfl (lv_at hl 0 rfl) ?_
    exact hret _ _ _ dX4_mergedName_39 (by simp [mNm, mrgN, h22_1])
  · refine lv_aload_n hx hb dX4_mergedName_25 rfl (lv_at hl 1 rfl) ?_
    refine r_get (C := RX4) (T := TX4) (M := 9) (index := 13) (fd := "name") (fo := "[I") hx hb hts (by decide +kernel) hown hK hP 0 (by decide) mF_0 rfl 2 (by decide) rfl (by decide +kernel) rfl dX4_mergedName_26 ?_
    refine lv_iconst (v := nI 3) hx hb dX4_mergedName_29 (by decide) ?_
    refine lv_iload_n hx hb dX4_mergedName_30 rfl (lv_at hl 2 rfl) ?_
    refine r_mulN (a := 3) (b := c) (r := 3 * c) hx hb dX4_mergedName_31 (by omega) ?_
    refine lv_iconst (v := nI 1) hx hb dX4_mergedName_32 (by decide) ?_
    refine r_addN (a := 3 * c) (b := 1) (r := 3 * c + 1) hx hb dX4_mergedName_33 (by omega) ?_
    refine r_iald hx hb hK hP 2 0 (by omega) mF_2 rfl (i := 3 * c + 1) (by omega) (by decide) dX4_mergedName_34 ?_
    refine lv_goto (tgt := 39) hx hb dX4_mergedName_35 (by decide) ?_
    exact hret _ _ _ dX4_mergedName_39 (by simp [mNm, mrgN, h22_1])
set_option maxHeartbeats 4000000 in
set_option maxRecDepth 100000 in
theorem c_X4_clashes (l : Launch) (D : va_G) (cI : ClassId) (cA : ClassId) (ad : Nat → Nat) (th : Int32) (n : Nat) (y : Nat → Nat → Int32) (c : Nat) (hc : c < 24) : Met l yX4_clashes wsX4_clashes ({ frames := 0, cells := 0, slots := 0, locals := 0 }) (va_Pc [.ref (ad 0), .int (nI c)] (mX D cI cA ad th n y)) (qR (some (.int (bI (mcl y c))))) 0 0 nF := by
  refine c_ofR (cc := cX4_clashes) (maxL := 5) (ret := .boolean) (by decide) rfl (nar_bI _) (Nat.le_of_ble_eq_true rfl) ?_
  intro p e s m av below meth cd Q hx hb hF hP hK hD hT hret ls hl
  have hown : s.vm.findClass RX4 = some m.cls := hF.2.2.2.1
  have hF : CallFix p m cd cX4_clashes 5 s av wsX4_clashes RX4 := hF
  have hts := hF.2.2.2.2
  have hl : lv_has ls 5 [(0, .ref (ad 0)), (1, .int (nI c))] := hl
  refine lv_aload_n hx hb dX4_clashes_0 rfl (lv_at hl 0 rfl) ?_
  refine r_get (C := RX4) (T := TX4) (M := 9) (index := 13) (fd := "name") (fo := "[I") hx hb hts (by decide +kernel) hown hK hP 0 (by decide) mF_0 rfl 2 (by decide) rfl (by decide +kernel) rfl dX4_clashes_1 ?_
  refine lv_iconst (v := nI 3) hx hb dX4_clashes_4 (by decide) ?_
  refine lv_iload_n hx hb dX4_clashes_5 rfl (lv_at hl 1 rfl) ?_
  refine r_mulN (a := 3) (b := c) (r := 3 * c) hx hb dX4_clashes_6 (by omega) ?_
  refine lv_iconst (v := nI 0) hx hb dX4_clashes_7 (by decide) ?_
  refine r_addN (a := 3 * c) (b := 0) (r := 3 * c) hx hb dX4_clashes_8 (by omega) ?_
  refine r_iald hx hb hK hP 2 0 (by omega) mF_2 rfl (i := 3 * c) (by omega) (by decide) dX4_clashes_9 ?_
  refine lv_istore_n (lv' := [(2, .int (y 2 (3 * c))), (0, .ref (ad 0)), (1, .int (nI c))]) hx hb dX4_clashes_10 rfl hl (by decide) rfl (fun ls hl => ?_)
  refine lv_aload_n hx hb dX4_clashes_11 rfl (lv_at hl 1 rfl) ?_
  refine r_get (C := RX4) (T := TX4) (M := 9) (index := 13) (fd := "name") (fo := "[I") hx hb hts (by decide +kernel) hown hK hP 0 (by decide) mF_0 rfl 2 (by decide) rfl (by decide +kernel) rfl dX4_clashes_12 ?_
  refine lv_iconst (v := nI 3) hx hb dX4_clashes_15 (by decide) ?_
  refine lv_iload_n hx hb dX4_clashes_16 rfl (lv_at hl 2 rfl) ?_
  refine r_mulN (a := 3) (b := c) (r := 3 * c) hx hb dX4_clashes_17 (by omega) ?_
  refine lv_iconst (v := nI 1) hx hb dX4_clashes_18 (by decide) ?_
  refine r_addN (a := 3 * c) (b := 1) (r := 3 * c + 1) hx hb dX4_clashes_19 (by omega) ?_
  refine r_iald hx hb hK hP 2 0 (by omega) mF_2 rfl (i := 3 * c + 1) (by omega) (by decide) dX4_clashes_20 ?_
  refine lv_istore_n (lv' := [(3, .int (y 2 (3 * c + 1))), (2, .int (y 2 (3 * c))), (0, .ref (ad 0)), (1, .int (nI c))]) hx hb dX4_clashes_21 rfl hl (by decide) rfl (fun ls hl => ?_)
  refine lv_aload_n hx hb dX4_clashes_22 rfl (lv_at hl 2 rfl) ?_
  refine r_get (C := RX4) (T := TX4) (M := 9) (index := 13) (fd := "name") (fo := "[I") hx hb hts (by decide +kernel) hown hK hP 0 (by decide) mF_0 rfl 2 (by decide) rfl (by decide +kernel) rfl dX4_clashes_23 ?_
  refine lv_iconst (v := nI 3) hx hb dX4_clashes_26 (by decide) ?_
  refine lv_iload_n hx hb dX4_clashes_27 rfl (lv_at hl 3 rfl) ?_
  refine r_mulN (a := 3) (b := c) (r := 3 * c) hx hb dX4_clashes_28 (by omega) ?_
  refine lv_iconst (v := nI 2) hx hb dX4_clashes_29 (by decide) ?_
  refine r_addN (a := 3 * c) (b := 2) (r := 3 * c + 2) hx hb dX4_clashes_30 (by omega) ?_
  refine r_iald hx hb hK hP 2 0 (by omega) mF_2 rfl (i := 3 * c + 2) (by omega) (by decide) dX4_clashes_31 ?_
  refine lv_istore (lv' := [(4, .int (y 2 (3 * c + 2))), (3, .int (y 2 (3 * c + 1))), (2, .int (y 2 (3 * c))), (0, .ref (ad 0)), (1, .int (nI c))]) hx hb dX4_clashes_32 hl (by decide) rfl (fun ls hl => ?_)
  refine lv_iload_n hx hb dX4_clashes_34 rfl (lv_at hl 2 rfl) ?_
  refine lv_iload_n hx hb dX4_clashes_35 rfl (lv_at hl 1 rfl) ?_
  refine lv_icmp_eq (tgt := 55) hx hb dX4_clashes_36 (by decide) (fun h36_1 => ?_) (fun h36_1 => ?_)
  · refine lv_iconst (v := nI 0) hx hb dX4_clashes_55 (by decide) ?_
    exact hret _ _ _ dX4_clashes_56 (by simp [mcl, clB, bI, h36_1])
  · refine lv_iload_n hx hb dX4_clashes_39 rfl (lv_at hl 2 rfl) ?_
    refine lv_iload hx hb dX4_clashes_40 (lv_at hl 0 rfl) ?_
    refine lv_icmp_eq (tgt := 55) hx hb dX4_clashes_42 (by decide) (fun h42_2 => ?_) (fun h42_2 => ?_)
    · refine lv_iconst (v := nI 0) hx hb dX4_clashes_55 (by decide) ?_
      exact hret _ _ _ dX4_clashes_56 (by simp [mcl, clB, bI, h36_1, h42_2])
    · refine lv_iload_n hx hb dX4_clashes_45 rfl (lv_at hl 1 rfl) ?_
      refine lv_iload hx hb dX4_clashes_46 (lv_at hl 0 rfl) ?_
      refine lv_icmp_eq (tgt := 55) hx hb dX4_clashes_48 (by decide) (fun h48_3 => ?_) (fun h48_3 => ?_)
      · refine lv_iconst (v := nI 0) hx hb dX4_clashes_55 (by decide) ?_
        exact hret _ _ _ dX4_clashes_56 (by simp [mcl, clB, bI, h36_1, h42_2, h48_3])
      · refine lv_iconst (v := nI 1) hx hb dX4_clashes_51 (by decide) ?_
        refine lv_goto (tgt := 56) hx hb dX4_clashes_52 (by decide) ?_
        exact hret _ _ _ dX4_clashes_56 (by simp [mcl, clB, bI, h36_1, h42_2, h48_3])
