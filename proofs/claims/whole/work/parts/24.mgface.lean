set_option maxHeartbeats 4000000 in
set_option maxRecDepth 100000 in
theorem c_X4_groups (l : Launch) (D : va_G) (cI : ClassId) (cA : ClassId) (ad : Nat → Nat) (th : Int32) (n : Nat) (y : Nat → Nat → Int32) (g : Nat → Int32) (hn : n ≤ 24) (hg : ∀ i, i < n → isGrp (y 4) n i (g i)) : Met l yX4_groups wsX4_groups ({ frames := 2, cells := 0, slots := 0, locals := 45 }) (va_Pc [.ref (ad 0)] (mX D cI cA ad th n y)) (qW D ad (mF cI ad (nI 0) n y) 8 (some (.int (cntM (fun j => lowB (g j) j) n)))) 0 0 (wA ad 8) := by
  refine c_ofW (cc := cX4_groups) (maxL := 3) (ret := .int) (by decide) rfl rfl (Nat.le_of_ble_eq_true rfl) ?_
  intro p e s m av below meth cd Q hx hb hF hP hK hD hT hret ls hl
  have hown : s.vm.findClass RX4 = some m.cls := hF.2.2.2.1
  have hF : CallFix p m cd cX4_groups 3 s av wsX4_groups RX4 := hF
  have hts := hF.2.2.2.2
  have hl : lv_has ls 3 [(0, .ref (ad 0))] := hl
  obtain ⟨H, eH⟩ : ∃ H9 : Heap, H9 = s.heap := ⟨_, rfl⟩
  obtain ⟨locs, eL⟩ : ∃ L9 : List Loc, L9 = [] := ⟨_, rfl⟩
  have hS : sS (wA ad 8) s.heap H locs := by rw [eH, eL]; exact sS.rf
  rw [← eH] at hP
  suffices hgo : W p l e ({ frames := 2, cells := 0, slots := 0, locals := 45 }) s m av below meth cd H locs 0 0 Q (F0 m 0 ls []) by rw [eH, eL] at hgo; exact hgo
  clear eH eL
  refine lv_aload_n hx hb dX4_groups_0 rfl (lv_at hl 0 rfl) ?_
  refine lv_iconst (v := nI 0) hx hb dX4_groups_1 (by decide) ?_
  refine r_put (C := RX4) (T := TX4) (M := 9) (index := 31) (fd := "thrown") (f' := mF cI ad (nI 0) n y) hx hb hts (by decide +kernel) tyX4 tyX4_ok nmX4 hown hK hP hD hS 0 (by decide) mF_0 rfl 0 (by decide) rfl (by decide +kernel) (Nat.le_of_ble_eq_true rfl) mF_th dX4_groups_2 (fun H locs hP hS => ?_)
  refine lv_iconst (v := nI 0) hx hb dX4_groups_5 (by decide) ?_
  refine lv_istore_n (lv' := [(1, .int (nI 0)), (0, .ref (ad 0))]) hx hb dX4_groups_6 rfl hl (by decide) rfl (fun ls hl => ?_)
  refine lv_iconst (v := nI 0) hx hb dX4_groups_7 (by decide) ?_
  refine lv_istore_n (lv' := [(2, .int (nI 0)), (1, .int (nI 0)), (0, .ref (ad 0))]) hx hb dX4_groups_8 rfl hl (by decide) rfl (fun ls hl => ?_)
  have hL9 : ∀ i : Nat, i ≤ n → ∀ (H : Heap) (locs : List Loc), va_P D vwCl (wl ad (mF cI ad (nI 0) n y) 8) H → sS (wA ad 8) s.heap H locs → ∀ ls : Array Slot, lv_has ls 3 [(0, .ref (ad 0)), (1, .int (cntM (fun j => lowB (g j) j) i)), (2, .int (nI i))] → W p l e ({ frames := 2, cells := 0, slots := 0, locals := 45 }) s m av below meth cd H locs 0 0 Q (F0 m 9 ls []) := by
    refine down (n) ?_ ?_
    · intro H locs hP hS ls hl
      refine lv_iload_n hx hb dX4_groups_9 rfl (lv_at hl 2 rfl) ?_
      refine lv_aload_n hx hb dX4_groups_10 rfl (lv_at hl 0 rfl) ?_
      refine r_get (C := RX4) (T := TX4) (M := 9) (index := 35) (fd := "cards") (fo := "I") hx hb hts (by decide +kernel) hown hK hP 0 (by decide) mF_0 rfl 7 (by decide) rfl (by decide +kernel) rfl dX4_groups_11 ?_
      refine r_cgeN (a := n) (b := n) (tgt := 45) hx hb (by omega) (by omega) dX4_groups_14 (by decide) (fun _ => ?_) (fun h => absurd h (by omega))
      refine lv_iload_n hx hb dX4_groups_45 rfl (lv_at hl 1 rfl) ?_
      exact hret _ _ _ _ _ _ hP hS dX4_groups_46 (rfl) (rfl)
    · intro i hi9 ih9 H locs hP hS ls hl
      refine lv_iload_n hx hb dX4_groups_9 rfl (lv_at hl 2 rfl) ?_
      refine lv_aload_n hx hb dX4_groups_10 rfl (lv_at hl 0 rfl) ?_
      refine r_get (C := RX4) (T := TX4) (M := 9) (index := 35) (fd := "cards") (fo := "I") hx hb hts (by decide +kernel) hown hK hP 0 (by decide) mF_0 rfl 7 (by decide) rfl (by decide +kernel) rfl dX4_groups_11 ?_
      refine r_cgeN (a := i) (b := n) (tgt := 45) hx hb (by omega) (by omega) dX4_groups_14 (by decide) (fun h => absurd h (by omega)) (fun _ => ?_)
      refine lv_iload_n hx hb dX4_groups_17 rfl (lv_at hl 1 rfl) ?_
      refine lv_aload_n hx hb dX4_groups_18 rfl (lv_at hl 0 rfl) ?_
      refine lv_iload_n hx hb dX4_groups_19 rfl (lv_at hl 2 rfl) ?_
      refine k_Ri (va_runV (As := [.int (nI i)]) (rest := [.int (cntM (fun j => lowB (g j) j) i)]) hF (c_X4_groupOf l D cI cA ad (nI 0) n y i (g i) (by omega) hn (hg i hi9)) (cwV 1 hts gX4_groups_X4_groupOf rfl rfl rfl (by decide +kernel) ⟨(Nat.le_of_ble_eq_true rfl), (Nat.le_of_ble_eq_true rfl)⟩) (k_pre hP hK hD hT (k := 0) (by decide) mF_0 rfl) rfl rfl hl.1 rfl (lv_room (Nat.le_of_ble_eq_true rfl)) dX4_groups_20 ⟨Nat.zero_le _, Nat.zero_le _⟩) ?_
      refine lv_iconst (v := nI 1) hx hb dX4_groups_23 (by decide) ?_
      refine lv_iload_n hx hb dX4_groups_24 rfl (lv_at hl 2 rfl) ?_
      refine r_bit hx hb dX4_groups_25 ?_
      refine lv_iconst (v := nI 1) hx hb dX4_groups_26 (by decide) ?_
      refine lv_isub hx hb dX4_groups_27 ?_
      refine lv_iand hx hb dX4_groups_28 ?_
      refine lv_if_ne (tgt := 36) hx hb dX4_groups_29 (by decide) (fun h29_3 => ?_) (fun h29_3 => ?_)
      · refine lv_iconst (v := nI 0) hx hb dX4_groups_36 (by decide) ?_
        refine lv_iadd hx hb dX4_groups_37 ?_
        refine lv_istore_n (lv' := [(1, .int ((cntM (fun j => lowB (g j) j) i) + (nI 0))), (0, .ref (ad 0)), (2, .int (nI i))]) hx hb dX4_groups_38 rfl hl (by decide) rfl (fun ls hl => ?_)
        refine r_iincN (k := 2) (a := i) (d := 1) (r := i + 1) (lv' := [(2, .int (nI (i + 1))), (1, .int ((cntM (fun j => lowB (g j) j) i) + (nI 0))), (0, .ref (ad 0))]) hx hb dX4_groups_39 hl rfl (by omega) (by decide) rfl (fun ls hl => ?_)
        refine lv_goto (tgt := 9) hx hb dX4_groups_42 (by decide) ?_
        exact ih9 _ _ hP hS _ (lv_cast (lv_sub (l' := [(0, .ref (ad 0)), (1, .int ((cntM (fun j => lowB (g j) j) i) + (nI 0))), (2, .int (nI (i + 1)))]) hl [2, 1, 0] rfl) (by rw [show (cntM (fun j => lowB (g j) j) (i + 1) : Int32) = (cntM (fun j => lowB (g j) j) i) + (nI 0) from by simp [cntM, lowB, h29_3]]))
      · refine lv_iconst (v := nI 1) hx hb dX4_groups_32 (by decide) ?_
        refine lv_goto (tgt := 37) hx hb dX4_groups_33 (by decide) ?_
        refine lv_iadd hx hb dX4_groups_37 ?_
        refine lv_istore_n (lv' := [(1, .int ((cntM (fun j => lowB (g j) j) i) + (nI 1))), (0, .ref (ad 0)), (2, .int (nI i))]) hx hb dX4_groups_38 rfl hl (by decide) rfl (fun ls hl => ?_)
        refine r_iincN (k := 2) (a := i) (d := 1) (r := i + 1) (lv' := [(2, .int (nI (i + 1))), (1, .int ((cntM (fun j => lowB (g j) j) i) + (nI 1))), (0, .ref (ad 0))]) hx hb dX4_groups_39 hl rfl (by omega) (by decide) rfl (fun ls hl => ?_)
        refine lv_goto (tgt := 9) hx hb dX4_groups_42 (by decide) ?_
        exact ih9 _ _ hP hS _ (lv_cast (lv_sub (l' := [(0, .ref (ad 0)), (1, .int ((cntM (fun j => lowB (g j) j) i) + (nI 1))), (2, .int (nI (i + 1)))]) hl [2, 1, 0] rfl) (by rw [show (cntM (fun j => lowB (g j) j) (i + 1) : Int32) = (cntM (fun j => lowB (g j) j) i) + (nI 1) from by simp [cntM, lowB, h29_3]]))
  exact hL9 0 (Nat.zero_le _) _ _ hP hS _ (lv_cast (lv_sub (l' := [(0, .ref (ad 0)), (1, .int (nI 0)), (2, .int (nI 0))]) hl [2, 1, 0] rfl) (by rw [show (cntM (fun j => lowB (g j) j) 0 : Int32) = nI 0 from rfl]))
set_option maxHeartbeats 4000000 in
set_option maxRecDepth 100000 in
theorem m_group_0 (l : Launch) (D : va_G) (cI : ClassId) (cA : ClassId) (ad : Nat → Nat) (th : Int32) (n : Nat) (y : Nat → Nat → Int32) (c : Nat) (g : Nat → Int32) (hc : c < n) (hn : n ≤ 24) (hg : ∀ i, i < n → isGrp (y 4) n i (g i)) : Met l yX4_group wsX4_group ({ frames := 2, cells := 0, slots := 0, locals := 45 }) (va_Pc [.ref (ad 0), .int (nI c)] (mX D cI cA ad th n y)) (qW D ad (mF cI ad (nI 0) n y) 8 (some (.int (g c)))) 0 0 (wA ad 8) := by
  refine c_ofW (cc := cX4_group) (maxL := 2) (ret := .int) (by decide) rfl rfl (Nat.le_of_ble_eq_true rfl) ?_
  intro p e s m av below meth cd Q hx hb hF hP hK hD hT hret ls hl
  have hown : s.vm.findClass RX4 = some m.cls := hF.2.2.2.1
  have hF : CallFix p m cd cX4_group 2 s av wsX4_group RX4 := hF
  have hts := hF.2.2.2.2
  have hl : lv_has ls 2 [(0, .ref (ad 0)), (1, .int (nI c))] := hl
  obtain ⟨H, eH⟩ : ∃ H9 : Heap, H9 = s.heap := ⟨_, rfl⟩
  obtain ⟨locs, eL⟩ : ∃ L9 : List Loc, L9 = [] := ⟨_, rfl⟩
  have hS : sS (wA ad 8) s.heap H locs := by rw [eH, eL]; exact sS.rf
  rw [← eH] at hP
  suffices hgo : W p l e ({ frames := 2, cells := 0, slots := 0, locals := 45 }) s m av below meth cd H locs 0 0 Q (F0 m 0 ls []) by rw [eH, eL] at hgo; exact hgo
  clear eH eL
  refine lv_aload_n hx hb dX4_group_0 rfl (lv_at hl 0 rfl) ?_
  refine lv_aload_n hx hb dX4_group_1 rfl (lv_at hl 0 rfl) ?_
  refine lv_iload_n hx hb dX4_group_2 rfl (lv_at hl 1 rfl) ?_
  refine k_Ri (va_runV (As := [.int (nI c)]) (rest := [.ref (ad 0)]) hF (c_X4_isCard l D cI cA ad th n y (nI c) hn) (cwV 1 hts gX4_group_X4_isCard rfl rfl rfl (by decide +kernel) ⟨(Nat.le_of_ble_eq_true rfl), (Nat.le_of_ble_eq_true rfl)⟩) (k_pre hP hK hD hT (k := 0) (by decide) mF_0 rfl) rfl rfl hl.1 rfl (lv_room (Nat.le_of_ble_eq_true rfl)) dX4_group_3 ⟨Nat.zero_le _, Nat.zero_le _⟩) ?_
  refine r_topi (show bI (cardB n (nI c)) = bI true from congrArg bI (cardB_ok hc hn)) ?_
  refine r_ifeqB (b := true) (tgt := 13) hx hb dX4_group_6 (by decide) (fun h => absurd h (by decide)) (fun _ => ?_)
  refine lv_iconst (v := nI 0) hx hb dX4_group_9 (by decide) ?_
  refine lv_goto (tgt := 14) hx hb dX4_group_10 (by decide) ?_
  refine k_Wi (va_runV (As := [.int (nI 0)]) (rest := []) hF (c_X4_isFine_0 l D cI cA ad th n y) (cwV 1 hts gX4_group_X4_isFine rfl rfl rfl (by decide +kernel) ⟨(Nat.le_of_ble_eq_true rfl), (Nat.le_of_ble_eq_true rfl)⟩) (k_pre hP hK hD hT (k := 0) (by decide) mF_0 rfl) rfl rfl hl.1 rfl (lv_room (Nat.le_of_ble_eq_true rfl)) dX4_group_14 ⟨Nat.zero_le _, Nat.zero_le _⟩) hD hS (fun H locs hP hS => ?_)
  refine r_ifeqB (b := true) (tgt := 28) hx hb dX4_group_17 (by decide) (fun h => absurd h (by decide)) (fun _ => ?_)
  refine lv_aload_n hx hb dX4_group_20 rfl (lv_at hl 0 rfl) ?_
  refine lv_iload_n hx hb dX4_group_21 rfl (lv_at hl 1 rfl) ?_
  refine k_Ri (va_runV (As := [.int (nI c)]) (rest := []) hF (c_X4_groupOf l D cI cA ad (nI 0) n y c (g c) hc hn (hg c hc)) (cwV 1 hts gX4_group_X4_groupOf rfl rfl rfl (by decide +kernel) ⟨(Nat.le_of_ble_eq_true rfl), (Nat.le_of_ble_eq_true rfl)⟩) (k_pre hP hK hD hT (k := 0) (by decide) mF_0 rfl) rfl rfl hl.1 rfl (lv_room (Nat.le_of_ble_eq_true rfl)) dX4_group_22 ⟨Nat.zero_le _, Nat.zero_le _⟩) ?_
  refine lv_goto (tgt := 29) hx hb dX4_group_25 (by decide) ?_
  exact hret _ _ _ _ _ _ hP hS dX4_group_29 (rfl) (rfl)
set_option maxHeartbeats 4000000 in
set_option maxRecDepth 100000 in
theorem m_group_1 (l : Launch) (D : va_G) (cI : ClassId) (cA : ClassId) (ad : Nat → Nat) (th : Int32) (n : Nat) (y : Nat → Nat → Int32) (a : Int32) (hca : cardB n a = false) (hn : n ≤ 24) : Met l yX4_group wsX4_group ({ frames := 2, cells := 0, slots := 0, locals := 43 }) (va_Pc [.ref (ad 0), .int a] (mX D cI cA ad th n y)) (qW D ad (mF cI ad (nI 1) n y) 8 (some (.int (nI 0)))) 0 0 (wA ad 8) := by
  refine c_ofW (cc := cX4_group) (maxL := 2) (ret := .int) (by decide) rfl rfl (Nat.le_of_ble_eq_true rfl) ?_
  intro p e s m av below meth cd Q hx hb hF hP hK hD hT hret ls hl
  have hown : s.vm.findClass RX4 = some m.cls := hF.2.2.2.1
  have hF : CallFix p m cd cX4_group 2 s av wsX4_group RX4 := hF
  have hts := hF.2.2.2.2
  have hl : lv_has ls 2 [(0, .ref (ad 0)), (1, .int a)] := hl
  obtain ⟨H, eH⟩ : ∃ H9 : Heap, H9 = s.heap := ⟨_, rfl⟩
  obtain ⟨locs, eL⟩ : ∃ L9 : List Loc, L9 = [] := ⟨_, rfl⟩
  have hS : sS (wA ad 8) s.heap H locs := by rw [eH, eL]; exact sS.rf
  rw [← eH] at hP
  suffices hgo : W p l e ({ frames := 2, cells := 0, slots := 0, locals := 43 }) s m av below meth cd H locs 0 0 Q (F0 m 0 ls []) by rw [eH, eL] at hgo; exact hgo
  clear eH eL
  refine lv_aload_n hx hb dX4_group_0 rfl (lv_at hl 0 rfl) ?_
  refine lv_aload_n hx hb dX4_group_1 rfl (lv_at hl 0 rfl) ?_
  refine lv_iload_n hx hb dX4_group_2 rfl (lv_at hl 1 rfl) ?_
  refine k_Ri (va_runV (As := [.int a]) (rest := [.ref (ad 0)]) hF (c_X4_isCard l D cI cA ad th n y a hn) (cwV 1 hts gX4_group_X4_isCard rfl rfl rfl (by decide +kernel) ⟨(Nat.le_of_ble_eq_true rfl), (Nat.le_of_ble_eq_true rfl)⟩) (k_pre hP hK hD hT (k := 0) (by decide) mF_0 rfl) rfl rfl hl.1 rfl (lv_room (Nat.le_of_ble_eq_true rfl)) dX4_group_3 ⟨Nat.zero_le _, Nat.zero_le _⟩) ?_
  refine r_topi (show bI (cardB n a) = bI false from congrArg bI (hca)) ?_
  refine r_ifeqB (b := false) (tgt := 13) hx hb dX4_group_6 (by decide) (fun _ => ?_) (fun h => absurd h (by decide))
  refine lv_iconst (v := nI 1) hx hb dX4_group_13 (by decide) ?_
  refine k_Wi (va_runV (As := [.int (nI 1)]) (rest := []) hF (c_X4_isFine_1 l D cI cA ad th n y) (cwV 1 hts gX4_group_X4_isFine rfl rfl rfl (by decide +kernel) ⟨(Nat.le_of_ble_eq_true rfl), (Nat.le_of_ble_eq_true rfl)⟩) (k_pre hP hK hD hT (k := 0) (by decide) mF_0 rfl) rfl rfl hl.1 rfl (lv_room (Nat.le_of_ble_eq_true rfl)) dX4_group_14 ⟨Nat.zero_le _, Nat.zero_le _⟩) hD hS (fun H locs hP hS => ?_)
  refine r_ifeqB (b := false) (tgt := 28) hx hb dX4_group_17 (by decide) (fun _ => ?_) (fun h => absurd h (by decide))
  refine lv_iconst (v := nI 0) hx hb dX4_group_28 (by decide) ?_
  exact hret _ _ _ _ _ _ hP hS dX4_group_29 (rfl) (rfl)
set_option maxHeartbeats 4000000 in
set_option maxRecDepth 100000 in
theorem m_preferred_0 (l : Launch) (D : va_G) (cI : ClassId) (cA : ClassId) (ad : Nat → Nat) (th : Int32) (n : Nat) (y : Nat → Nat → Int32) (c : Nat) (g : Nat → Int32) (hc : c < n) (hn : n ≤ 24) (hg : ∀ i, i < n → isGrp (y 4) n i (g i)) : Met l yX4_preferred wsX4_preferred ({ frames := 3, cells := 0, slots := 0, locals := 70 }) (va_Pc [.ref (ad 0), .int (nI c)] (mX D cI cA ad th n y)) (qW D ad (mF cI ad (nI 0) n y) 8 (some (.int (nI (prefF (y 1) (g c) c n))))) 0 0 (wA ad 8) := by
  refine c_ofW (cc := cX4_preferred) (maxL := 2) (ret := .int) (by decide) rfl rfl (Nat.le_of_ble_eq_true rfl) ?_
  intro p e s m av below meth cd Q hx hb hF hP hK hD hT hret ls hl
  have hown : s.vm.findClass RX4 = some m.cls := hF.2.2.2.1
  have hF : CallFix p m cd cX4_preferred 2 s av wsX4_preferred RX4 := hF
  have hts := hF.2.2.2.2
  have hl : lv_has ls 2 [(0, .ref (ad 0)), (1, .int (nI c))] := hl
  obtain ⟨H, eH⟩ : ∃ H9 : Heap, H9 = s.heap := ⟨_, rfl⟩
  obtain ⟨locs, eL⟩ : ∃ L9 : List Loc, L9 = [] := ⟨_, rfl⟩
  have hS : sS (wA ad 8) s.heap H locs := by rw [eH, eL]; exact sS.rf
  rw [← eH] at hP
  suffices hgo : W p l e ({ frames := 3, cells := 0, slots := 0, locals := 70 }) s m av below meth cd H locs 0 0 Q (F0 m 0 ls []) by rw [eH, eL] at hgo; exact hgo
  clear eH eL
  refine lv_aload_n hx hb dX4_preferred_0 rfl (lv_at hl 0 rfl) ?_
  refine lv_aload_n hx hb dX4_preferred_1 rfl (lv_at hl 0 rfl) ?_
  refine lv_iload_n hx hb dX4_preferred_2 rfl (lv_at hl 1 rfl) ?_
  refine k_Ri (va_runV (As := [.int (nI c)]) (rest := [.ref (ad 0)]) hF (c_X4_isCard l D cI cA ad th n y (nI c) hn) (cwV 1 hts gX4_preferred_X4_isCard rfl rfl rfl (by decide +kernel) ⟨(Nat.le_of_ble_eq_true rfl), (Nat.le_of_ble_eq_true rfl)⟩) (k_pre hP hK hD hT (k := 0) (by decide) mF_0 rfl) rfl rfl hl.1 rfl (lv_room (Nat.le_of_ble_eq_true rfl)) dX4_preferred_3 ⟨Nat.zero_le _, Nat.zero_le _⟩) ?_
  refine r_topi (show bI (cardB n (nI c)) = bI true from congrArg bI (cardB_ok hc hn)) ?_
  refine r_ifeqB (b := true) (tgt := 13) hx hb dX4_preferred_6 (by decide) (fun h => absurd h (by decide)) (fun _ => ?_)
  refine lv_iconst (v := nI 0) hx hb dX4_preferred_9 (by decide) ?_
  refine lv_goto (tgt := 14) hx hb dX4_preferred_10 (by decide) ?_
  refine k_Wi (va_runV (As := [.int (nI 0)]) (rest := []) hF (c_X4_isFine_0 l D cI cA ad th n y) (cwV 1 hts gX4_preferred_X4_isFine rfl rfl rfl (by decide +kernel) ⟨(Nat.le_of_ble_eq_true rfl), (Nat.le_of_ble_eq_true rfl)⟩) (k_pre hP hK hD hT (k := 0) (by decide) mF_0 rfl) rfl rfl hl.1 rfl (lv_room (Nat.le_of_ble_eq_true rfl)) dX4_preferred_14 ⟨Nat.zero_le _, Nat.zero_le _⟩) hD hS (fun H locs hP hS => ?_)
  refine r_ifeqB (b := true) (tgt := 28) hx hb dX4_preferred_17 (by decide) (fun h => absurd h (by decide)) (fun _ => ?_)
  refine lv_aload_n hx hb dX4_preferred_20 rfl (lv_at hl 0 rfl) ?_
  refine lv_iload_n hx hb dX4_preferred_21 rfl (lv_at hl 1 rfl) ?_
  refine k_Ri (va_runV (As := [.int (nI c)]) (rest := []) hF (c_X4_preferredOf l D cI cA ad (nI 0) n y c g hc hn hg) (cwV 1 hts gX4_preferred_X4_preferredOf rfl rfl rfl (by decide +kernel) ⟨(Nat.le_of_ble_eq_true rfl), (Nat.le_of_ble_eq_true rfl)⟩) (k_pre hP hK hD hT (k := 0) (by decide) mF_0 rfl) rfl rfl hl.1 rfl (lv_room (Nat.le_of_ble_eq_true rfl)) dX4_preferred_22 ⟨Nat.zero_le _, Nat.zero_le _⟩) ?_
  refine lv_goto (tgt := 29) hx hb dX4_preferred_25 (by decide) ?_
  exact hret _ _ _ _ _ _ hP hS dX4_preferred_29 (rfl) (rfl)
set_option maxHeartbeats 4000000 in
set_option maxRecDepth 100000 in
theorem m_preferred_1 (l : Launch) (D : va_G) (cI : ClassId) (cA : ClassId) (ad : Nat → Nat) (th : Int32) (n : Nat) (y : Nat → Nat → Int32) (a : Int32) (hca : cardB n a = false) (hn : n ≤ 24) : Met l yX4_preferred wsX4_preferred ({ frames := 2, cells := 0, slots := 0, locals := 43 }) (va_Pc [.ref (ad 0), .int a] (mX D cI cA ad th n y)) (qW D ad (mF cI ad (nI 1) n y) 8 (some (.int (nI 0)))) 0 0 (wA ad 8) := by
  refine c_ofW (cc := cX4_preferred) (maxL := 2) (ret := .int) (by decide) rfl rfl (Nat.le_of_ble_eq_true rfl) ?_
  intro p e s m av below meth cd Q hx hb hF hP hK hD hT hret ls hl
  have hown : s.vm.findClass RX4 = some m.cls := hF.2.2.2.1
  have hF : CallFix p m cd cX4_preferred 2 s av wsX4_preferred RX4 := hF
  have hts := hF.2.2.2.2
  have hl : lv_has ls 2 [(0, .ref (ad 0)), (1, .int a)] := hl
  obtain ⟨H, eH⟩ : ∃ H9 : Heap, H9 = s.heap := ⟨_, rfl⟩
  obtain ⟨locs, eL⟩ : ∃ L9 : List Loc, L9 = [] := ⟨_, rfl⟩
  have hS : sS (wA ad 8) s.heap H locs := by rw [eH, eL]; exact sS.rf
  rw [← eH] at hP
  suffices hgo : W p l e ({ frames := 2, cells := 0, slots := 0, locals := 43 }) s m av below meth cd H locs 0 0 Q (F0 m 0 ls []) by rw [eH, eL] at hgo; exact hgo
  clear eH eL
  refine lv_aload_n hx hb dX4_preferred_0 rfl (lv_at hl 0 rfl) ?_
  refine lv_aload_n hx hb dX4_preferred_1 rfl (lv_at hl 0 rfl) ?_
  refine lv_iload_n hx hb dX4_preferred_2 rfl (lv_at hl 1 rfl) ?_
  refine k_Ri (va_runV (As := [.int a]) (rest := [.ref (ad 0)]) hF (c_X4_isCard l D cI cA ad th n y a hn) (cwV 1 hts gX4_preferred_X4_isCard rfl rfl rfl (by decide +kernel) ⟨(Nat.le_of_ble_eq_true rfl), (Nat.le_of_ble_eq_true rfl)⟩) (k_pre hP hK hD hT (k := 0) (by decide) mF_0 rfl) rfl rfl hl.1 rfl (lv_room (Nat.le_of_ble_eq_true rfl)) dX4_preferred_3 ⟨Nat.zero_le _, Nat.zero_le _⟩) ?_
  refine r_topi (show bI (cardB n a) = bI false from congrArg bI (hca)) ?_
  refine r_ifeqB (b := false) (tgt := 13) hx hb dX4_preferred_6 (by decide) (fun _ => ?_) (fun h => absurd h (by decide))
  refine lv_iconst (v := nI 1) hx hb dX4_preferred_13 (by decide) ?_
  refine k_Wi (va_runV (As := [.int (nI 1)]) (rest := []) hF (c_X4_isFine_1 l D cI cA ad th n y) (cwV 1 hts gX4_preferred_X4_isFine rfl rfl rfl (by decide +kernel) ⟨(Nat.le_of_ble_eq_true rfl), (Nat.le_of_ble_eq_true rfl)⟩) (k_pre hP hK hD hT (k := 0) (by decide) mF_0 rfl) rfl rfl hl.1 rfl (lv_room (Nat.le_of_ble_eq_true rfl)) dX4_preferred_14 ⟨Nat.zero_le _, Nat.zero_le _⟩) hD hS (fun H locs hP hS => ?_)
  refine r_ifeqB (b := false) (tgt := 28) hx hb dX4_preferred_17 (by decide) (fun _ => ?_) (fun h => absurd h (by decide))
  refine lv_iconst (v := nI 0) hx hb dX4_preferred_28 (by decide) ?_
  exact hret _ _ _ _ _ _ hP hS dX4_preferred_29 (rfl) (rfl)
set_option maxHeartbeats 4000000 in
set_option maxRecDepth 100000 in
theorem m_shown_0 (l : Launch) (D : va_G) (cI : ClassId) (cA : ClassId) (ad : Nat → Nat) (th : Int32) (n : Nat) (y : Nat → Nat → Int32) (c : Nat) (k : Nat) (g : Nat → Int32) (hc : c < n) (hn : n ≤ 24) (hk : k < 2) (hg : ∀ i, i < n → isGrp (y 4) n i (g i)) : Met l yX4_shown wsX4_shown ({ frames := 3, cells := 0, slots := 0, locals := 70 }) (va_Pc [.ref (ad 0), .int (nI c), .int (nI k)] (mX D cI cA ad th n y)) (qW D ad (mF cI ad (nI 0) n y) 8 (some (.int (orM (g c) (fun j => y 3 (6 * j + k)) n)))) 0 0 (wA ad 8) := by
  refine c_ofW (cc := cX4_shown) (maxL := 3) (ret := .int) (by decide) rfl rfl (Nat.le_of_ble_eq_true rfl) ?_
  intro p e s m av below meth cd Q hx hb hF hP hK hD hT hret ls hl
  have hown : s.vm.findClass RX4 = some m.cls := hF.2.2.2.1
  have hF : CallFix p m cd cX4_shown 3 s av wsX4_shown RX4 := hF
  have hts := hF.2.2.2.2
  have hl : lv_has ls 3 [(0, .ref (ad 0)), (1, .int (nI c)), (2, .int (nI k))] := hl
  obtain ⟨H, eH⟩ : ∃ H9 : Heap, H9 = s.heap := ⟨_, rfl⟩
  obtain ⟨locs, eL⟩ : ∃ L9 : List Loc, L9 = [] := ⟨_, rfl⟩
  have hS : sS (wA ad 8) s.heap H locs := by rw [eH, eL]; exact sS.rf
  rw [← eH] at hP
  suffices hgo : W p l e ({ frames := 3, cells := 0, slots := 0, locals := 70 }) s m av below meth cd H locs 0 0 Q (F0 m 0 ls []) by rw [eH, eL] at hgo; exact hgo
  clear eH eL
  refine lv_aload_n hx hb dX4_shown_0 rfl (lv_at hl 0 rfl) ?_
  refine lv_aload_n hx hb dX4_shown_1 rfl (lv_at hl 0 rfl) ?_
  refine lv_iload_n hx hb dX4_shown_2 rfl (lv_at hl 1 rfl) ?_
  refine k_Ri (va_runV (As := [.int (nI c)]) (rest := [.ref (ad 0)]) hF (c_X4_isCard l D cI cA ad th n y (nI c) hn) (cwV 1 hts gX4_shown_X4_isCard rfl rfl rfl (by decide +kernel) ⟨(Nat.le_of_ble_eq_true rfl), (Nat.le_of_ble_eq_true rfl)⟩) (k_pre hP hK hD hT (k := 0) (by decide) mF_0 rfl) rfl rfl hl.1 rfl (lv_room (Nat.le_of_ble_eq_true rfl)) dX4_shown_3 ⟨Nat.zero_le _, Nat.zero_le _⟩) ?_
  refine r_topi (show bI (cardB n (nI c)) = bI true from congrArg bI (cardB_ok hc hn)) ?_
  refine r_ifneB (b := true) (tgt := 13) hx hb dX4_shown_6 (by decide) (fun _ => ?_) (fun h => absurd h (by decide))
  refine lv_iload_n hx hb dX4_shown_13 rfl (lv_at hl 2 rfl) ?_
  refine k_Ri (va_runS (As := [.int (nI k)]) (rest := [.ref (ad 0)]) hF (c_X4_isKind l (nI k)) (va_cwS 1 hts gX4_shown_X4_isKind rfl rfl rfl (by decide +kernel) ⟨(Nat.le_of_ble_eq_true rfl), (Nat.le_of_ble_eq_true rfl)⟩) k_preS rfl rfl hl.1 rfl (lv_room (Nat.le_of_ble_eq_true rfl)) dX4_shown_14 ⟨Nat.zero_le _, Nat.zero_le _⟩) ?_
  refine r_topi (show bI (kindB (nI k)) = bI true from congrArg bI (kindB_ok hk)) ?_
  refine r_ifneB (b := true) (tgt := 24) hx hb dX4_shown_17 (by decide) (fun _ => ?_) (fun h => absurd h (by decide))
  refine lv_iconst (v := nI 0) hx hb dX4_shown_24 (by decide) ?_
  refine k_Wi (va_runV (As := [.int (nI 0)]) (rest := []) hF (c_X4_isFine_0 l D cI cA ad th n y) (cwV 1 hts gX4_shown_X4_isFine rfl rfl rfl (by decide +kernel) ⟨(Nat.le_of_ble_eq_true rfl), (Nat.le_of_ble_eq_true rfl)⟩) (k_pre hP hK hD hT (k := 0) (by decide) mF_0 rfl) rfl rfl hl.1 rfl (lv_room (Nat.le_of_ble_eq_true rfl)) dX4_shown_25 ⟨Nat.zero_le _, Nat.zero_le _⟩) hD hS (fun H locs hP hS => ?_)
  refine r_ifeqB (b := true) (tgt := 40) hx hb dX4_shown_28 (by decide) (fun h => absurd h (by decide)) (fun _ => ?_)
  refine lv_aload_n hx hb dX4_shown_31 rfl (lv_at hl 0 rfl) ?_
  refine lv_iload_n hx hb dX4_shown_32 rfl (lv_at hl 1 rfl) ?_
  refine lv_iload_n hx hb dX4_shown_33 rfl (lv_at hl 2 rfl) ?_
  refine k_Ri (va_runV (As := [.int (nI c), .int (nI k)]) (rest := []) hF (c_X4_shownOf l D cI cA ad (nI 0) n y c k g hc hn hk hg) (cwV 2 hts gX4_shown_X4_shownOf rfl rfl rfl (by decide +kernel) ⟨(Nat.le_of_ble_eq_true rfl), (Nat.le_of_ble_eq_true rfl)⟩) (k_pre hP hK hD hT (k := 0) (by decide) mF_0 rfl) rfl rfl hl.1 rfl (lv_room (Nat.le_of_ble_eq_true rfl)) dX4_shown_34 ⟨Nat.zero_le _, Nat.zero_le _⟩) ?_
  refine lv_goto (tgt := 41) hx hb dX4_shown_37 (by decide) ?_
  exact hret _ _ _ _ _ _ hP hS dX4_shown_41 (rfl) (rfl)
set_option maxHeartbeats 4000000 in
set_option maxRecDepth 100000 in
theorem m_shown_1 (l : Launch) (D : va_G) (cI : ClassId) (cA : ClassId) (ad : Nat → Nat) (th : Int32) (n : Nat) (y : Nat → Nat → Int32) (a : Int32) (k : Int32) (hca : cardB n a = false) (hn : n ≤ 24) : Met l yX4_shown wsX4_shown ({ frames := 2, cells := 0, slots := 0, locals := 43 }) (va_Pc [.ref (ad 0), .int a, .int k] (mX D cI cA ad th n y)) (qW D ad (mF cI ad (nI 1) n y) 8 (some (.int (nI 0)))) 0 0 (wA ad 8) := by
  refine c_ofW (cc := cX4_shown) (maxL := 3) (ret := .int) (by decide) rfl rfl (Nat.le_of_ble_eq_true rfl) ?_
  intro p e s m av below meth cd Q hx hb hF hP hK hD hT hret ls hl
  have hown : s.vm.findClass RX4 = some m.cls := hF.2.2.2.1
  have hF : CallFix p m cd cX4_shown 3 s av wsX4_shown RX4 := hF
  have hts := hF.2.2.2.2
  have hl : lv_has ls 3 [(0, .ref (ad 0)), (1, .int a), (2, .int k)] := hl
  obtain ⟨H, eH⟩ : ∃ H9 : Heap, H9 = s.heap := ⟨_, rfl⟩
  obtain ⟨locs, eL⟩ : ∃ L9 : List Loc, L9 = [] := ⟨_, rfl⟩
  have hS : sS (wA ad 8) s.heap H locs := by rw [eH, eL]; exact sS.rf
  rw [← eH] at hP
  suffices hgo : W p l e ({ frames := 2, cells := 0, slots := 0, locals := 43 }) s m av below meth cd H locs 0 0 Q (F0 m 0 ls []) by rw [eH, eL] at hgo; exact hgo
  clear eH eL
  refine lv_aload_n hx hb dX4_shown_0 rfl (lv_at hl 0 rfl) ?_
  refine lv_aload_n hx hb dX4_shown_1 rfl (lv_at hl 0 rfl) ?_
  refine lv_iload_n hx hb dX4_shown_2 rfl (lv_at hl 1 rfl) ?_
  refine k_Ri (va_runV (As := [.int a]) (rest := [.ref (ad 0)]) hF (c_X4_isCard l D cI cA ad th n y a hn) (cwV 1 hts gX4_shown_X4_isCard rfl rfl rfl (by decide +kernel) ⟨(Nat.le_of_ble_eq_true rfl), (Nat.le_of_ble_eq_true rfl)⟩) (k_pre hP hK hD hT (k := 0) (by decide) mF_0 rfl) rfl rfl hl.1 rfl (lv_room (Nat.le_of_ble_eq_true rfl)) dX4_shown_3 ⟨Nat.zero_le _, Nat.zero_le _⟩) ?_
  refine r_topi (show bI (cardB n a) = bI false from congrArg bI (hca)) ?_
  refine r_ifneB (b := false) (tgt := 13) hx hb dX4_shown_6 (by decide) (fun h => absurd h (by decide)) (fun _ => ?_)
  refine lv_iconst (v := nI 1) hx hb dX4_shown_9 (by decide) ?_
  refine lv_goto (tgt := 25) hx hb dX4_shown_10 (by decide) ?_
  refine k_Wi (va_runV (As := [.int (nI 1)]) (rest := []) hF (c_X4_isFine_1 l D cI cA ad th n y) (cwV 1 hts gX4_shown_X4_isFine rfl rfl rfl (by decide +kernel) ⟨(Nat.le_of_ble_eq_true rfl), (Nat.le_of_ble_eq_true rfl)⟩) (k_pre hP hK hD hT (k := 0) (by decide) mF_0 rfl) rfl rfl hl.1 rfl (lv_room (Nat.le_of_ble_eq_true rfl)) dX4_shown_25 ⟨Nat.zero_le _, Nat.zero_le _⟩) hD hS (fun H locs hP hS => ?_)
  refine r_ifeqB (b := false) (tgt := 40) hx hb dX4_shown_28 (by decide) (fun _ => ?_) (fun h => absurd h (by decide))
  refine lv_iconst (v := nI 0) hx hb dX4_shown_40 (by decide) ?_
  exact hret _ _ _ _ _ _ hP hS dX4_shown_41 (rfl) (rfl)
set_option maxHeartbeats 4000000 in
set_option maxRecDepth 100000 in
theorem m_shown_2 (l : Launch) (D : va_G) (cI : ClassId) (cA : ClassId) (ad : Nat → Nat) (th : Int32) (n : Nat) (y : Nat → Nat → Int32) (c : Nat) (k : Int32) (hc : c < n) (hn : n ≤ 24) (hbad : (kindB k) = false) : Met l yX4_shown wsX4_shown ({ frames := 2, cells := 0, slots := 0, locals := 43 }) (va_Pc [.ref (ad 0), .int (nI c), .int k] (mX D cI cA ad th n y)) (qW D ad (mF cI ad (nI 2) n y) 8 (some (.int (nI 0)))) 0 0 (wA ad 8) := by
  refine c_ofW (cc := cX4_shown) (maxL := 3) (ret := .int) (by decide) rfl rfl (Nat.le_of_ble_eq_true rfl) ?_
  intro p e s m av below meth cd Q hx hb hF hP hK hD hT hret ls hl
  have hown : s.vm.findClass RX4 = some m.cls := hF.2.2.2.1
  have hF : CallFix p m cd cX4_shown 3 s av wsX4_shown RX4 := hF
  have hts := hF.2.2.2.2
  have hl : lv_has ls 3 [(0, .ref (ad 0)), (1, .int (nI c)), (2, .int k)] := hl
  obtain ⟨H, eH⟩ : ∃ H9 : Heap, H9 = s.heap := ⟨_, rfl⟩
  obtain ⟨locs, eL⟩ : ∃ L9 : List Loc, L9 = [] := ⟨_, rfl⟩
  have hS : sS (wA ad 8) s.heap H locs := by rw [eH, eL]; exact sS.rf
  rw [← eH] at hP
  suffices hgo : W p l e ({ frames := 2, cells := 0, slots := 0, locals := 43 }) s m av below meth cd H locs 0 0 Q (F0 m 0 ls []) by rw [eH, eL] at hgo; exact hgo
  clear eH eL
  refine lv_aload_n hx hb dX4_shown_0 rfl (lv_at hl 0 rfl) ?_
  refine lv_aload_n hx hb dX4_shown_1 rfl (lv_at hl 0 rfl) ?_
  refine lv_iload_n hx hb dX4_shown_2 rfl (lv_at hl 1 rfl) ?_
  refine k_Ri (va_runV (As := [.int (nI c)]) (rest := [.ref (ad 0)]) hF (c_X4_isCard l D cI cA ad th n y (nI c) hn) (cwV 1 hts gX4_shown_X4_isCard rfl rfl rfl (by decide +kernel) ⟨(Nat.le_of_ble_eq_true rfl), (Nat.le_of_ble_eq_true rfl)⟩) (k_pre hP hK hD hT (k := 0) (by decide) mF_0 rfl) rfl rfl hl.1 rfl (lv_room (Nat.le_of_ble_eq_true rfl)) dX4_shown_3 ⟨Nat.zero_le _, Nat.zero_le _⟩) ?_
  refine r_topi (show bI (cardB n (nI c)) = bI true from congrArg bI (cardB_ok hc hn)) ?_
  refine r_ifneB (b := true) (tgt := 13) hx hb dX4_shown_6 (by decide) (fun _ => ?_) (fun h => absurd h (by decide))
  refine lv_iload_n hx hb dX4_shown_13 rfl (lv_at hl 2 rfl) ?_
  refine k_Ri (va_runS (As := [.int k]) (rest := [.ref (ad 0)]) hF (c_X4_isKind l k) (va_cwS 1 hts gX4_shown_X4_isKind rfl rfl rfl (by decide +kernel) ⟨(Nat.le_of_ble_eq_true rfl), (Nat.le_of_ble_eq_true rfl)⟩) k_preS rfl rfl hl.1 rfl (lv_room (Nat.le_of_ble_eq_true rfl)) dX4_shown_14 ⟨Nat.zero_le _, Nat.zero_le _⟩) ?_
  refine r_topi (show bI (kindB k) = bI false from congrArg bI (hbad)) ?_
  refine r_ifneB (b := false) (tgt := 24) hx hb dX4_shown_17 (by decide) (fun h => absurd h (by decide)) (fun _ => ?_)
  refine lv_iconst (v := nI 2) hx hb dX4_shown_20 (by decide) ?_
  refine lv_goto (tgt := 25) hx hb dX4_shown_21 (by decide) ?_
  refine k_Wi (va_runV (As := [.int (nI 2)]) (rest := []) hF (c_X4_isFine_2 l D cI cA ad th n y) (cwV 1 hts gX4_shown_X4_isFine rfl rfl rfl (by decide +kernel) ⟨(Nat.le_of_ble_eq_true rfl), (Nat.le_of_ble_eq_true rfl)⟩) (k_pre hP hK hD hT (k := 0) (by decide) mF_0 rfl) rfl rfl hl.1 rfl (lv_room (Nat.le_of_ble_eq_true rfl)) dX4_shown_25 ⟨Nat.zero_le _, Nat.zero_le _⟩) hD hS (fun H locs hP hS => ?_)
  refine r_ifeqB (b := false) (tgt := 40) hx hb dX4_shown_28 (by decide) (fun _ => ?_) (fun h => absurd h (by decide))
  refine lv_iconst (v := nI 0) hx hb dX4_shown_40 (by decide) ?_
  exact hret _ _ _ _ _ _ hP hS dX4_shown_41 (rfl) (rfl)
set_option maxHeartbeats 4000000 in
set_option maxRecDepth 100000 in
theorem m_edit_a (l : Launch) (D : va_G) (cI : ClassId) (cA : ClassId) (ad : Nat → Nat) (th : Int32) (n : Nat) (y : Nat → Nat → Int32) (c : Nat) (k : Nat) (w : Nat) (g : Nat → Int32) (hc : c < n) (hn : n ≤ 24) (hk : k < 2) (hw : w < 30) (hg : ∀ i, i < n → isGrp (y 4) n i (g i)) (hsh : hasB (orM (g c) (fun j => y 3 (6 * j + k)) n) w = true) : Met l yX4_edit wsX4_edit ({ frames := 3, cells := 0, slots := 0, locals := 70 }) (va_Pc [.ref (ad 0), .int (nI c), .int (nI k), .int (nI w)] (mX D cI cA ad th n y)) (qW D ad (mF cI ad (nI 0) n (mtkS y n (g c) k w n)) 8 (some (.int (mtkC y n (g c) k w n)))) 0 0 (wA ad 8) := by
  refine c_ofW (cc := cX4_edit) (maxL := 8) (ret := .int) (by decide) rfl rfl (Nat.le_of_ble_eq_true rfl) ?_
  intro p e s m av below meth cd Q hx hb hF hP hK hD hT hret ls hl
  have hown : s.vm.findClass RX4 = some m.cls := hF.2.2.2.1
  have hF : CallFix p m cd cX4_edit 8 s av wsX4_edit RX4 := hF
  have hts := hF.2.2.2.2
  have hl : lv_has ls 8 [(0, .ref (ad 0)), (1, .int (nI c)), (2, .int (nI k)), (3, .int (nI w))] := hl
  obtain ⟨H, eH⟩ : ∃ H9 : Heap, H9 = s.heap := ⟨_, rfl⟩
  obtain ⟨locs, eL⟩ : ∃ L9 : List Loc, L9 = [] := ⟨_, rfl⟩
  have hS : sS (wA ad 8) s.heap H locs := by rw [eH, eL]; exact sS.rf
  rw [← eH] at hP
  suffices hgo : W p l e ({ frames := 3, cells := 0, slots := 0, locals := 70 }) s m av below meth cd H locs 0 0 Q (F0 m 0 ls []) by rw [eH, eL] at hgo; exact hgo
  clear eH eL
  refine lv_iload_n hx hb dX4_edit_0 rfl (lv_at hl 2 rfl) ?_
  refine k_Ri (va_runS (As := [.int (nI k)]) (rest := []) hF (c_X4_isKind l (nI k)) (va_cwS 1 hts gX4_edit_X4_isKind rfl rfl rfl (by decide +kernel) ⟨(Nat.le_of_ble_eq_true rfl), (Nat.le_of_ble_eq_true rfl)⟩) k_preS rfl rfl hl.1 rfl (lv_room (Nat.le_of_ble_eq_true rfl)) dX4_edit_1 ⟨Nat.zero_le _, Nat.zero_le _⟩) ?_
  refine r_topi (show bI (kindB (nI k)) = bI true from congrArg bI (kindB_ok hk)) ?_
  refine r_ifeqB (b := true) (tgt := 21) hx hb dX4_edit_4 (by decide) (fun h => absurd h (by decide)) (fun _ => ?_)
  refine lv_iload_n hx hb dX4_edit_7 rfl (lv_at hl 3 rfl) ?_
  refine lv_iconst (v := nI 0) hx hb dX4_edit_8 (by decide) ?_
  refine lv_bipush (v := nI 29) hx hb dX4_edit_9 (by decide) ?_
  refine k_Ri (va_runS (As := [.int (nI w), .int (nI 0), .int (nI 29)]) (rest := []) hF (c_X4_isIn l (nI w) (nI 0) (nI 29)) (va_cwS 3 hts gX4_edit_X4_isIn rfl rfl rfl (by decide +kernel) ⟨(Nat.le_of_ble_eq_true rfl), (Nat.le_of_ble_eq_true rfl)⟩) k_preS rfl rfl hl.1 rfl (lv_room (Nat.le_of_ble_eq_true rfl)) dX4_edit_11 ⟨Nat.zero_le _, Nat.zero_le _⟩) ?_
  refine r_topi (show bI (inB (nI w) (nI 0) (nI 29)) = bI true from congrArg bI (inB_value.trans (valueB_ok hw))) ?_
  refine r_ifeqB (b := true) (tgt := 21) hx hb dX4_edit_14 (by decide) (fun h => absurd h (by decide)) (fun _ => ?_)
  refine lv_iconst (v := nI 1) hx hb dX4_edit_17 (by decide) ?_
  refine lv_goto (tgt := 22) hx hb dX4_edit_18 (by decide) ?_
  refine lv_istore (lv' := [(4, .int (nI 1)), (0, .ref (ad 0)), (1, .int (nI c)), (2, .int (nI k)), (3, .int (nI w))]) hx hb dX4_edit_22 hl (by decide) rfl (fun ls hl => ?_)
  refine lv_aload_n hx hb dX4_edit_24 rfl (lv_at hl 1 rfl) ?_
  refine lv_aload_n hx hb dX4_edit_25 rfl (lv_at hl 1 rfl) ?_
  refine lv_iload_n hx hb dX4_edit_26 rfl (lv_at hl 2 rfl) ?_
  refine k_Ri (va_runV (As := [.int (nI c)]) (rest := [.ref (ad 0)]) hF (c_X4_isCard l D cI cA ad th n y (nI c) hn) (cwV 1 hts gX4_edit_X4_isCard rfl rfl rfl (by decide +kernel) ⟨(Nat.le_of_ble_eq_true rfl), (Nat.le_of_ble_eq_true rfl)⟩) (k_pre hP hK hD hT (k := 0) (by decide) mF_0 rfl) rfl rfl hl.1 rfl (lv_room (Nat.le_of_ble_eq_true rfl)) dX4_edit_27 ⟨Nat.zero_le _, Nat.zero_le _⟩) ?_
  refine r_topi (show bI (cardB n (nI c)) = bI true from congrArg bI (cardB_ok hc hn)) ?_
  refine r_ifneB (b := true) (tgt := 37) hx hb dX4_edit_30 (by decide) (fun _ => ?_) (fun h => absurd h (by decide))
  refine lv_iload hx hb dX4_edit_37 (lv_at hl 0 rfl) ?_
  refine r_ifneN (a := 1) (tgt := 46) hx hb (by omega) dX4_edit_39 (by decide) (fun _ => ?_) (fun h => absurd h (by omega))
  refine lv_iconst (v := nI 0) hx hb dX4_edit_46 (by decide) ?_
  refine k_Wi (va_runV (As := [.int (nI 0)]) (rest := []) hF (c_X4_isFine_0 l D cI cA ad th n y) (cwV 1 hts gX4_edit_X4_isFine rfl rfl rfl (by decide +kernel) ⟨(Nat.le_of_ble_eq_true rfl), (Nat.le_of_ble_eq_true rfl)⟩) (k_pre hP hK hD hT (k := 0) (by decide) mF_0 rfl) rfl rfl hl.1 rfl (lv_room (Nat.le_of_ble_eq_true rfl)) dX4_edit_47 ⟨Nat.zero_le _, Nat.zero_le _⟩) hD hS (fun H locs hP hS => ?_)
  refine r_ifneB (b := true) (tgt := 55) hx hb dX4_edit_50 (by decide) (fun _ => ?_) (fun h => absurd h (by decide))
  refine lv_aload_n hx hb dX4_edit_55 rfl (lv_at hl 1 rfl) ?_
  refine lv_iload_n hx hb dX4_edit_56 rfl (lv_at hl 2 rfl) ?_
  refine lv_iload_n hx hb dX4_edit_57 rfl (lv_at hl 3 rfl) ?_
  refine k_Ri (va_runV (As := [.int (nI c), .int (nI k)]) (rest := []) hF (c_X4_shownOf l D cI cA ad (nI 0) n y c k g hc hn hk hg) (cwV 2 hts gX4_edit_X4_shownOf rfl rfl rfl (by decide +kernel) ⟨(Nat.le_of_ble_eq_true rfl), (Nat.le_of_ble_eq_true rfl)⟩) (k_pre hP hK hD hT (k := 0) (by decide) mF_0 rfl) rfl rfl hl.1 rfl (lv_room (Nat.le_of_ble_eq_true rfl)) dX4_edit_58 ⟨Nat.zero_le _, Nat.zero_le _⟩) ?_
  refine lv_iload_n hx hb dX4_edit_61 rfl (lv_at hl 4 rfl) ?_
  refine k_Ri (va_runS (As := [.int (orM (g c) (fun j => y 3 (6 * j + k)) n), .int (nI w)]) (rest := []) hF (c_X4_has l w (orM (g c) (fun j => y 3 (6 * j + k)) n) (by omega)) (va_cwS 2 hts gX4_edit_X4_has rfl rfl rfl (by decide +kernel) ⟨(Nat.le_of_ble_eq_true rfl), (Nat.le_of_ble_eq_true rfl)⟩) k_preS rfl rfl hl.1 rfl (lv_room (Nat.le_of_ble_eq_true rfl)) dX4_edit_62 ⟨Nat.zero_le _, Nat.zero_le _⟩) ?_
  refine r_topi (show bI (hasB (orM (g c) (fun j => y 3 (6 * j + k)) n) w) = bI true from congrArg bI (hsh)) ?_
  refine r_ifneB (b := true) (tgt := 104) hx hb dX4_edit_65 (by decide) (fun _ => ?_) (fun h => absurd h (by decide))
  refine lv_aload_n hx hb dX4_edit_104 rfl (lv_at hl 1 rfl) ?_
  refine lv_iload_n hx hb dX4_edit_105 rfl (lv_at hl 2 rfl) ?_
  refine k_Ri (va_runV (As := [.int (nI c)]) (rest := []) hF (c_X4_groupOf l D cI cA ad (nI 0) n y c (g c) hc hn (hg c hc)) (cwV 1 hts gX4_edit_X4_groupOf rfl rfl rfl (by decide +kernel) ⟨(Nat.le_of_ble_eq_true rfl), (Nat.le_of_ble_eq_true rfl)⟩) (k_pre hP hK hD hT (k := 0) (by decide) mF_0 rfl) rfl rfl hl.1 rfl (lv_room (Nat.le_of_ble_eq_true rfl)) dX4_edit_106 ⟨Nat.zero_le _, Nat.zero_le _⟩) ?_
  refine lv_istore (lv' := [(5, .int ((g c))), (4, .int (nI 1)), (0, .ref (ad 0)), (1, .int (nI c)), (2, .int (nI k)), (3, .int (nI w))]) hx hb dX4_edit_109 hl (by decide) rfl (fun ls hl => ?_)
  refine lv_iconst (v := nI 0) hx hb dX4_edit_111 (by decide) ?_
  refine lv_istore (lv' := [(6, .int (nI 0)), (5, .int ((g c))), (4, .int (nI 1)), (0, .ref (ad 0)), (1, .int (nI c)), (2, .int (nI k)), (3, .int (nI w))]) hx hb dX4_edit_112 hl (by decide) rfl (fun ls hl => ?_)
  refine lv_iconst (v := nI 0) hx hb dX4_edit_114 (by decide) ?_
  refine lv_istore (lv' := [(7, .int (nI 0)), (6, .int (nI 0)), (5, .int ((g c))), (4, .int (nI 1)), (0, .ref (ad 0)), (1, .int (nI c)), (2, .int (nI k)), (3, .int (nI w))]) hx hb dX4_edit_115 hl (by decide) rfl (fun ls hl => ?_)
  have hL117 : ∀ i : Nat, i ≤ n → ∀ (H : Heap) (locs : List Loc), va_P D vwCl (wl ad (mF cI ad (nI 0) n (mtkS y n (g c) k w i)) 8) H → sS (wA ad 8) s.heap H locs → ∀ ls : Array Slot, lv_has ls 8 [(0, .ref (ad 0)), (2, .int (nI k)), (3, .int (nI w)), (5, .int (g c)), (6, .int (mtkC y n (g c) k w i)), (7, .int (nI i))] → W p l e ({ frames := 3, cells := 0, slots := 0, locals := 70 }) s m av below meth cd H locs 0 0 Q (F0 m 117 ls []) := by
    refine down (n) ?_ ?_
    · intro H locs hP hS ls hl
      refine lv_iload hx hb dX4_edit_117 (lv_at hl 5 rfl) ?_
      refine lv_aload_n hx hb dX4_edit_119 rfl (lv_at hl 0 rfl) ?_
      refine r_get (C := RX4) (T := TX4) (M := 9) (index := 35) (fd := "cards") (fo := "I") hx hb hts (by decide +kernel) hown hK hP 0 (by decide) mF_0 rfl 7 (by decide) rfl (by decide +kernel) rfl dX4_edit_120 ?_
      refine r_cgeN (a := n) (b := n) (tgt := 196) hx hb (by omega) (by omega) dX4_edit_123 (by decide) (fun _ => ?_) (fun h => absurd h (by omega))
      refine lv_iload hx hb dX4_edit_196 (lv_at hl 4 rfl) ?_
      exact hret _ _ _ _ _ _ hP hS dX4_edit_198 (rfl) (rfl)
    · intro i hi117 ih117 H locs hP hS ls hl
      refine lv_iload hx hb dX4_edit_117 (lv_at hl 5 rfl) ?_
      refine lv_aload_n hx hb dX4_edit_119 rfl (lv_at hl 0 rfl) ?_
      refine r_get (C := RX4) (T := TX4) (M := 9) (index := 35) (fd := "cards") (fo := "I") hx hb hts (by decide +kernel) hown hK hP 0 (by decide) mF_0 rfl 7 (by decide) rfl (by decide +kernel) rfl dX4_edit_120 ?_
      refine r_cgeN (a := i) (b := n) (tgt := 196) hx hb (by omega) (by omega) dX4_edit_123 (by decide) (fun h => absurd h (by omega)) (fun _ => ?_)
      refine lv_iload hx hb dX4_edit_126 (lv_at hl 3 rfl) ?_
      refine lv_iload hx hb dX4_edit_128 (lv_at hl 5 rfl) ?_
      refine k_Ri (va_runS (As := [.int (g c), .int (nI i)]) (rest := []) hF (c_X4_has l i (g c) (by omega)) (va_cwS 2 hts gX4_edit_X4_has rfl rfl rfl (by decide +kernel) ⟨(Nat.le_of_ble_eq_true rfl), (Nat.le_of_ble_eq_true rfl)⟩) k_preS rfl rfl hl.1 rfl (lv_room (Nat.le_of_ble_eq_true rfl)) dX4_edit_130 ⟨Nat.zero_le _, Nat.zero_le _⟩) ?_
      refine r_ifeqB (b := hasB (g c) i) (tgt := 190) hx hb dX4_edit_133 (by decide) (fun h133_9 => ?_) (fun h133_9 => ?_)
      · refine r_iincN (k := 5) (a := i) (d := 1) (r := i + 1) (lv' := [(7, .int (nI (i + 1))), (0, .ref (ad 0)), (2, .int (nI k)), (3, .int (nI w)), (5, .int (g c)), (6, .int (mtkC y n (g c) k w i))]) hx hb dX4_edit_190 hl rfl (by omega) (by decide) rfl (fun ls hl => ?_)
        refine lv_goto (tgt := 117) hx hb dX4_edit_193 (by decide) ?_
        exact ih117 _ _ (by rw [show mF cI ad (nI 0) n (mtkS y n (g c) k w (i + 1)) = mF cI ad (nI 0) n (mtkS y n (g c) k w i) from by simp [mtkS, h133_9]]; exact hP) hS _ (lv_cast (lv_sub (l' := [(0, .ref (ad 0)), (2, .int (nI k)), (3, .int (nI w)), (5, .int (g c)), (6, .int (mtkC y n (g c) k w i)), (7, .int (nI (i + 1)))]) hl [1, 2, 3, 4, 5, 0] rfl) (by rw [show (mtkC y n (g c) k w (i + 1) : Int32) = mtkC y n (g c) k w i from by simp [mtkC, h133_9]]))
      · refine lv_aload_n hx hb dX4_edit_136 rfl (lv_at hl 0 rfl) ?_
        refine r_get (C := RX4) (T := TX4) (M := 9) (index := 16) (fd := "set") (fo := "[I") hx hb hts (by decide +kernel) hown hK hP 0 (by decide) mF_0 rfl 3 (by decide) rfl (by decide +kernel) rfl dX4_edit_137 ?_
        refine lv_iload hx hb dX4_edit_140 (lv_at hl 5 rfl) ?_
        refine lv_iconst (v := nI 0) hx hb dX4_edit_142 (by decide) ?_
        refine lv_iload_n hx hb dX4_edit_143 rfl (lv_at hl 1 rfl) ?_
        refine k_Ri (va_runS (As := [.int (nI i), .int (nI 0), .int (nI k)]) (rest := [.ref (ad 3)]) hF (c_X4_at l i 0 k (by omega) (by omega) hk) (va_cwS 3 hts gX4_edit_X4_at rfl rfl rfl (by decide +kernel) ⟨(Nat.le_of_ble_eq_true rfl), (Nat.le_of_ble_eq_true rfl)⟩) k_preS rfl rfl hl.1 rfl (lv_room (Nat.le_of_ble_eq_true rfl)) dX4_edit_144 ⟨Nat.zero_le _, Nat.zero_le _⟩) ?_
        refine r_topi (show (nI (6 * i + 2 * 0 + k) : Int32) = nI (6 * i + k) from congrArg nI (by omega)) ?_
        refine r_iald hx hb hK hP 3 0 (by omega) mF_3 rfl (i := 6 * i + k) (by omega) (by decide) dX4_edit_147 ?_
        refine lv_iload_n hx hb dX4_edit_148 rfl (lv_at hl 2 rfl) ?_
        refine k_Ri (va_runS (As := [.int ((mtkS y n (g c) k w i) 3 (6 * i + k)), .int (nI w)]) (rest := []) hF (c_X4_has l w ((mtkS y n (g c) k w i) 3 (6 * i + k)) (by omega)) (va_cwS 2 hts gX4_edit_X4_has rfl rfl rfl (by decide +kernel) ⟨(Nat.le_of_ble_eq_true rfl), (Nat.le_of_ble_eq_true rfl)⟩) k_preS rfl rfl hl.1 rfl (lv_room (Nat.le_of_ble_eq_true rfl)) dX4_edit_149 ⟨Nat.zero_le _, Nat.zero_le _⟩) ?_
        refine r_ifeqB (b := hasB ((mtkS y n (g c) k w i) 3 (6 * i + k)) w) (tgt := 190) hx hb dX4_edit_152 (by decide) (fun h152_10 => ?_) (fun h152_10 => ?_)
        · refine r_iincN (k := 5) (a := i) (d := 1) (r := i + 1) (lv' := [(7, .int (nI (i + 1))), (0, .ref (ad 0)), (2, .int (nI k)), (3, .int (nI w)), (5, .int (g c)), (6, .int (mtkC y n (g c) k w i))]) hx hb dX4_edit_190 hl rfl (by omega) (by decide) rfl (fun ls hl => ?_)
          refine lv_goto (tgt := 117) hx hb dX4_edit_193 (by decide) ?_
          exact ih117 _ _ (by rw [show mF cI ad (nI 0) n (mtkS y n (g c) k w (i + 1)) = mF cI ad (nI 0) n (mtkS y n (g c) k w i) from by simp [mtkS, h133_9, h152_10]]; exact hP) hS _ (lv_cast (lv_sub (l' := [(0, .ref (ad 0)), (2, .int (nI k)), (3, .int (nI w)), (5, .int (g c)), (6, .int (mtkC y n (g c) k w i)), (7, .int (nI (i + 1)))]) hl [1, 2, 3, 4, 5, 0] rfl) (by rw [show (mtkC y n (g c) k w (i + 1) : Int32) = mtkC y n (g c) k w i from by simp [mtkC, h133_9, h152_10]]))
        · refine lv_aload_n hx hb dX4_edit_155 rfl (lv_at hl 0 rfl) ?_
          refine lv_iload hx hb dX4_edit_156 (lv_at hl 5 rfl) ?_
          refine lv_iconst (v := nI 0) hx hb dX4_edit_158 (by decide) ?_
          refine lv_iload_n hx hb dX4_edit_159 rfl (lv_at hl 1 rfl) ?_
          refine lv_aload_n hx hb dX4_edit_160 rfl (lv_at hl 0 rfl) ?_
          refine r_get (C := RX4) (T := TX4) (M := 9) (index := 16) (fd := "set") (fo := "[I") hx hb hts (by decide +kernel) hown hK hP 0 (by decide) mF_0 rfl 3 (by decide) rfl (by decide +kernel) rfl dX4_edit_161 ?_
          refine lv_iload hx hb dX4_edit_164 (lv_at hl 5 rfl) ?_
          refine lv_iconst (v := nI 0) hx hb dX4_edit_166 (by decide) ?_
          refine lv_iload_n hx hb dX4_edit_167 rfl (lv_at hl 1 rfl) ?_
          refine k_Ri (va_runS (As := [.int (nI i), .int (nI 0), .int (nI k)]) (rest := [.ref (ad 3), .int (nI k), .int (nI 0), .int (nI i), .ref (ad 0)]) hF (c_X4_at l i 0 k (by omega) (by omega) hk) (va_cwS 3 hts gX4_edit_X4_at rfl rfl rfl (by decide +kernel) ⟨(Nat.le_of_ble_eq_true rfl), (Nat.le_of_ble_eq_true rfl)⟩) k_preS rfl rfl hl.1 rfl (lv_room (Nat.le_of_ble_eq_true rfl)) dX4_edit_168 ⟨Nat.zero_le _, Nat.zero_le _⟩) ?_
          refine r_topi (show (nI (6 * i + 2 * 0 + k) : Int32) = nI (6 * i + k) from congrArg nI (by omega)) ?_
          refine r_iald hx hb hK hP 3 0 (by omega) mF_3 rfl (i := 6 * i + k) (by omega) (by decide) dX4_edit_171 ?_
          refine lv_iconst (v := nI 1) hx hb dX4_edit_172 (by decide) ?_
          refine lv_iload_n hx hb dX4_edit_173 rfl (lv_at hl 2 rfl) ?_
          refine r_bit hx hb dX4_edit_174 ?_
          refine lv_iconst (v := (-1)) hx hb dX4_edit_175 (by decide) ?_
          refine lv_ixor hx hb dX4_edit_176 ?_
          refine lv_iand hx hb dX4_edit_177 ?_
          refine k_Wv (va_runV (As := [.int (nI i), .int (nI 0), .int (nI k), .int (((mtkS y n (g c) k w i) 3 (6 * i + k)) &&& ((bit w) ^^^ ((-1))))]) (rest := []) hF (c_X4_sets l D cI cA ad (nI 0) n (mtkS y n (g c) k w i) i 0 k (((mtkS y n (g c) k w i) 3 (6 * i + k)) &&& ((bit w) ^^^ ((-1)))) (by omega) (by omega) hk hn) (cwV 4 hts gX4_edit_X4_sets rfl rfl rfl (by decide +kernel) ⟨(Nat.le_of_ble_eq_true rfl), (Nat.le_of_ble_eq_true rfl)⟩) (k_pre hP hK hD hT (k := 0) (by decide) mF_0 rfl) rfl rfl hl.1 rfl (lv_room (Nat.le_of_ble_eq_true rfl)) dX4_edit_178 ⟨Nat.zero_le _, Nat.zero_le _⟩) hD hS (fun H locs hP hS => ?_)
          refine lv_iload hx hb dX4_edit_181 (lv_at hl 4 rfl) ?_
          refine lv_iconst (v := nI 1) hx hb dX4_edit_183 (by decide) ?_
          refine lv_iload hx hb dX4_edit_184 (lv_at hl 5 rfl) ?_
          refine r_bit hx hb dX4_edit_186 ?_
          refine lv_ior hx hb dX4_edit_187 ?_
          refine lv_istore (lv' := [(6, .int ((mtkC y n (g c) k w i) ||| (bit i))), (0, .ref (ad 0)), (2, .int (nI k)), (3, .int (nI w)), (5, .int (g c)), (7, .int (nI i))]) hx hb dX4_edit_188 hl (by decide) rfl (fun ls hl => ?_)
          refine r_iincN (k := 5) (a := i) (d := 1) (r := i + 1) (lv' := [(7, .int (nI (i + 1))), (6, .int ((mtkC y n (g c) k w i) ||| (bit i))), (0, .ref (ad 0)), (2, .int (nI k)), (3, .int (nI w)), (5, .int (g c))]) hx hb dX4_edit_190 hl rfl (by omega) (by decide) rfl (fun ls hl => ?_)
          refine lv_goto (tgt := 117) hx hb dX4_edit_193 (by decide) ?_
          exact ih117 _ _ (by rw [show mF cI ad (nI 0) n (mtkS y n (g c) k w (i + 1)) = mF cI ad ((nI 0)) n (mputS (mtkS y n (g c) k w i) n i 0 k (((mtkS y n (g c) k w i) 3 (6 * i + k)) &&& ((bit w) ^^^ ((-1))))) from by simp [mtkS, h133_9, h152_10]]; exact hP) hS _ (lv_cast (lv_sub (l' := [(0, .ref (ad 0)), (2, .int (nI k)), (3, .int (nI w)), (5, .int (g c)), (6, .int ((mtkC y n (g c) k w i) ||| (bit i))), (7, .int (nI (i + 1)))]) hl [2, 3, 4, 5, 1, 0] rfl) (by rw [show (mtkC y n (g c) k w (i + 1) : Int32) = (mtkC y n (g c) k w i) ||| (bit i) from by simp [mtkC, h133_9, h152_10]]))
  exact hL117 0 (Nat.zero_le _) _ _ (by rw [show mF cI ad (nI 0) n (mtkS y n (g c) k w 0) = mF cI ad (nI 0) n y from rfl]; exact hP) hS _ (lv_cast (lv_sub (l' := [(0, .ref (ad 0)), (2, .int (nI k)), (3, .int (nI w)), (5, .int ((g c))), (6, .int (nI 0)), (7, .int (nI 0))]) hl [4, 6, 7, 2, 1, 0] rfl) (by rw [show (g c : Int32) = (g c) from rfl, show (mtkC y n (g c) k w 0 : Int32) = nI 0 from rfl]))
set_option maxHeartbeats 4000000 in
set_option maxRecDepth 100000 in
theorem m_edit_b (l : Launch) (D : va_G) (cI : ClassId) (cA : ClassId) (ad : Nat → Nat) (th : Int32) (n : Nat) (y : Nat → Nat → Int32) (c : Nat) (k : Nat) (w : Nat) (g : Nat → Int32) (hc : c < n) (hn : n ≤ 24) (hk : k < 2) (hw : w < 30) (hg : ∀ i, i < n → isGrp (y 4) n i (g i)) (hsh : hasB (orM (g c) (fun j => y 3 (6 * j + k)) n) w = false) : Met l yX4_edit wsX4_edit ({ frames := 3, cells := 0, slots := 0, locals := 70 }) (va_Pc [.ref (ad 0), .int (nI c), .int (nI k), .int (nI w)] (mX D cI cA ad th n y)) (qW D ad (mF cI ad (nI 0) n (mputS y n (prefF (y 1) (g c) c n) 0 k (y 3 (6 * prefF (y 1) (g c) c n + k) ||| bit w))) 8 (some (.int (bit (prefF (y 1) (g c) c n))))) 0 0 (wA ad 8) := by
  refine c_ofW (cc := cX4_edit) (maxL := 8) (ret := .int) (by decide) rfl rfl (Nat.le_of_ble_eq_true rfl) ?_
  intro p e s m av below meth cd Q hx hb hF hP hK hD hT hret ls hl
  have hown : s.vm.findClass RX4 = some m.cls := hF.2.2.2.1
  have hF : CallFix p m cd cX4_edit 8 s av wsX4_edit RX4 := hF
  have hts := hF.2.2.2.2
  have hl : lv_has ls 8 [(0, .ref (ad 0)), (1, .int (nI c)), (2, .int (nI k)), (3, .int (nI w))] := hl
  obtain ⟨H, eH⟩ : ∃ H9 : Heap, H9 = s.heap := ⟨_, rfl⟩
  obtain ⟨locs, eL⟩ : ∃ L9 : List Loc, L9 = [] := ⟨_, rfl⟩
  have hS : sS (wA ad 8) s.heap H locs := by rw [eH, eL]; exact sS.rf
  rw [← eH] at hP
  suffices hgo : W p l e ({ frames := 3, cells := 0, slots := 0, locals := 70 }) s m av below meth cd H locs 0 0 Q (F0 m 0 ls []) by rw [eH, eL] at hgo; exact hgo
  clear eH eL
  refine lv_iload_n hx hb dX4_edit_0 rfl (lv_at hl 2 rfl) ?_
  refine k_Ri (va_runS (As := [.int (nI k)]) (rest := []) hF (c_X4_isKind l (nI k)) (va_cwS 1 hts gX4_edit_X4_isKind rfl rfl rfl (by decide +kernel) ⟨(Nat.le_of_ble_eq_true rfl), (Nat.le_of_ble_eq_true rfl)⟩) k_preS rfl rfl hl.1 rfl (lv_room (Nat.le_of_ble_eq_true rfl)) dX4_edit_1 ⟨Nat.zero_le _, Nat.zero_le _⟩) ?_
  refine r_topi (show bI (kindB (nI k)) = bI true from congrArg bI (kindB_ok hk)) ?_
  refine r_ifeqB (b := true) (tgt := 21) hx hb dX4_edit_4 (by decide) (fun h => absurd h (by decide)) (fun _ => ?_)
  refine lv_iload_n hx hb dX4_edit_7 rfl (lv_at hl 3 rfl) ?_
  refine lv_iconst (v := nI 0) hx hb dX4_edit_8 (by decide) ?_
  refine lv_bipush (v := nI 29) hx hb dX4_edit_9 (by decide) ?_
  refine k_Ri (va_runS (As := [.int (nI w), .int (nI 0), .int (nI 29)]) (rest := []) hF (c_X4_isIn l (nI w) (nI 0) (nI 29)) (va_cwS 3 hts gX4_edit_X4_isIn rfl rfl rfl (by decide +kernel) ⟨(Nat.le_of_ble_eq_true rfl), (Nat.le_of_ble_eq_true rfl)⟩) k_preS rfl rfl hl.1 rfl (lv_room (Nat.le_of_ble_eq_true rfl)) dX4_edit_11 ⟨Nat.zero_le _, Nat.zero_le _⟩) ?_
  refine r_topi (show bI (inB (nI w) (nI 0) (nI 29)) = bI true from congrArg bI (inB_value.trans (valueB_ok hw))) ?_
  refine r_ifeqB (b := true) (tgt := 21) hx hb dX4_edit_14 (by decide) (fun h => absurd h (by decide)) (fun _ => ?_)
  refine lv_iconst (v := nI 1) hx hb dX4_edit_17 (by decide) ?_
  refine lv_goto (tgt := 22) hx hb dX4_edit_18 (by decide) ?_
  refine lv_istore (lv' := [(4, .int (nI 1)), (0, .ref (ad 0)), (1, .int (nI c)), (2, .int (nI k)), (3, .int (nI w))]) hx hb dX4_edit_22 hl (by decide) rfl (fun ls hl => ?_)
  refine lv_aload_n hx hb dX4_edit_24 rfl (lv_at hl 1 rfl) ?_
  refine lv_aload_n hx hb dX4_edit_25 rfl (lv_at hl 1 rfl) ?_
  refine lv_iload_n hx hb dX4_edit_26 rfl (lv_at hl 2 rfl) ?_
  refine k_Ri (va_runV (As := [.int (nI c)]) (rest := [.ref (ad 0)]) hF (c_X4_isCard l D cI cA ad th n y (nI c) hn) (cwV 1 hts gX4_edit_X4_isCard rfl rfl rfl (by decide +kernel) ⟨(Nat.le_of_ble_eq_true rfl), (Nat.le_of_ble_eq_true rfl)⟩) (k_pre hP hK hD hT (k := 0) (by decide) mF_0 rfl) rfl rfl hl.1 rfl (lv_room (Nat.le_of_ble_eq_true rfl)) dX4_edit_27 ⟨Nat.zero_le _, Nat.zero_le _⟩) ?_
  refine r_topi (show bI (cardB n (nI c)) = bI true from congrArg bI (cardB_ok hc hn)) ?_
  refine r_ifneB (b := true) (tgt := 37) hx hb dX4_edit_30 (by decide) (fun _ => ?_) (fun h => absurd h (by decide))
  refine lv_iload hx hb dX4_edit_37 (lv_at hl 0 rfl) ?_
  refine r_ifneN (a := 1) (tgt := 46) hx hb (by omega) dX4_edit_39 (by decide) (fun _ => ?_) (fun h => absurd h (by omega))
  refine lv_iconst (v := nI 0) hx hb dX4_edit_46 (by decide) ?_
  refine k_Wi (va_runV (As := [.int (nI 0)]) (rest := []) hF (c_X4_isFine_0 l D cI cA ad th n y) (cwV 1 hts gX4_edit_X4_isFine rfl rfl rfl (by decide +kernel) ⟨(Nat.le_of_ble_eq_true rfl), (Nat.le_of_ble_eq_true rfl)⟩) (k_pre hP hK hD hT (k := 0) (by decide) mF_0 rfl) rfl rfl hl.1 rfl (lv_room (Nat.le_of_ble_eq_true rfl)) dX4_edit_47 ⟨Nat.zero_le _, Nat.zero_le _⟩) hD hS (fun H locs hP hS => ?_)
  refine r_ifneB (b := true) (tgt := 55) hx hb dX4_edit_50 (by decide) (fun _ => ?_) (fun h => absurd h (by decide))
  refine lv_aload_n hx hb dX4_edit_55 rfl (lv_at hl 1 rfl) ?_
  refine lv_iload_n hx hb dX4_edit_56 rfl (lv_at hl 2 rfl) ?_
  refine lv_iload_n hx hb dX4_edit_57 rfl (lv_at hl 3 rfl) ?_
  refine k_Ri (va_runV (As := [.int (nI c), .int (nI k)]) (rest := []) hF (c_X4_shownOf l D cI cA ad (nI 0) n y c k g hc hn hk hg) (cwV 2 hts gX4_edit_X4_shownOf rfl rfl rfl (by decide +kernel) ⟨(Nat.le_of_ble_eq_true rfl), (Nat.le_of_ble_eq_true rfl)⟩) (k_pre hP hK hD hT (k := 0) (by decide) mF_0 rfl) rfl rfl hl.1 rfl (lv_room (Nat.le_of_ble_eq_true rfl)) dX4_edit_58 ⟨Nat.zero_le _, Nat.zero_le _⟩) ?_
  refine lv_iload_n hx hb dX4_edit_61 rfl (lv_at hl 4 rfl) ?_
  refine k_Ri (va_runS (As := [.int (orM (g c) (fun j => y 3 (6 * j + k)) n), .int (nI w)]) (rest := []) hF (c_X4_has l w (orM (g c) (fun j => y 3 (6 * j + k)) n) (by omega)) (va_cwS 2 hts gX4_edit_X4_has rfl rfl rfl (by decide +kernel) ⟨(Nat.le_of_ble_eq_true rfl), (Nat.le_of_ble_eq_true rfl)⟩) k_preS rfl rfl hl.1 rfl (lv_room (Nat.le_of_ble_eq_true rfl)) dX4_edit_62 ⟨Nat.zero_le _, Nat.zero_le _⟩) ?_
  refine r_topi (show bI (hasB (orM (g c) (fun j => y 3 (6 * j + k)) n) w) = bI false from congrArg bI (hsh)) ?_
  refine r_ifneB (b := false) (tgt := 104) hx hb dX4_edit_65 (by decide) (fun h => absurd h (by decide)) (fun _ => ?_)
  refine lv_aload_n hx hb dX4_edit_68 rfl (lv_at hl 1 rfl) ?_
  refine lv_iload_n hx hb dX4_edit_69 rfl (lv_at hl 2 rfl) ?_
  refine k_Ri (va_runV (As := [.int (nI c)]) (rest := []) hF (c_X4_preferredOf l D cI cA ad (nI 0) n y c g hc hn hg) (cwV 1 hts gX4_edit_X4_preferredOf rfl rfl rfl (by decide +kernel) ⟨(Nat.le_of_ble_eq_true rfl), (Nat.le_of_ble_eq_true rfl)⟩) (k_pre hP hK hD hT (k := 0) (by decide) mF_0 rfl) rfl rfl hl.1 rfl (lv_room (Nat.le_of_ble_eq_true rfl)) dX4_edit_70 ⟨Nat.zero_le _, Nat.zero_le _⟩) ?_
  refine lv_istore (lv' := [(5, .int (nI (prefF (y 1) (g c) c n))), (4, .int (nI 1)), (0, .ref (ad 0)), (1, .int (nI c)), (2, .int (nI k)), (3, .int (nI w))]) hx hb dX4_edit_73 hl (by decide) rfl (fun ls hl => ?_)
  have hpl := prefF_lt (b := y 1) (g := g c) hc n (Nat.le_refl _)
  refine lv_aload_n hx hb dX4_edit_75 rfl (lv_at hl 2 rfl) ?_
  refine lv_iload hx hb dX4_edit_76 (lv_at hl 0 rfl) ?_
  refine lv_iconst (v := nI 0) hx hb dX4_edit_78 (by decide) ?_
  refine lv_iload_n hx hb dX4_edit_79 rfl (lv_at hl 4 rfl) ?_
  refine lv_aload_n hx hb dX4_edit_80 rfl (lv_at hl 2 rfl) ?_
  refine r_get (C := RX4) (T := TX4) (M := 9) (index := 16) (fd := "set") (fo := "[I") hx hb hts (by decide +kernel) hown hK hP 0 (by decide) mF_0 rfl 3 (by decide) rfl (by decide +kernel) rfl dX4_edit_81 ?_
  refine lv_iload hx hb dX4_edit_84 (lv_at hl 0 rfl) ?_
  refine lv_iconst (v := nI 0) hx hb dX4_edit_86 (by decide) ?_
  refine lv_iload_n hx hb dX4_edit_87 rfl (lv_at hl 4 rfl) ?_
  refine k_Ri (va_runS (As := [.int (nI (prefF (y 1) (g c) c n)), .int (nI 0), .int (nI k)]) (rest := [.ref (ad 3), .int (nI k), .int (nI 0), .int (nI (prefF (y 1) (g c) c n)), .ref (ad 0)]) hF (c_X4_at l (prefF (y 1) (g c) c n) 0 k (by omega) (by omega) hk) (va_cwS 3 hts gX4_edit_X4_at rfl rfl rfl (by decide +kernel) ⟨(Nat.le_of_ble_eq_true rfl), (Nat.le_of_ble_eq_true rfl)⟩) k_preS rfl rfl hl.1 rfl (lv_room (Nat.le_of_ble_eq_true rfl)) dX4_edit_88 ⟨Nat.zero_le _, Nat.zero_le _⟩) ?_
  refine r_topi (show (nI (6 * (prefF (y 1) (g c) c n) + 2 * 0 + k) : Int32) = nI (6 * prefF (y 1) (g c) c n + k) from congrArg nI (by omega)) ?_
  refine r_iald hx hb hK hP 3 0 (by omega) mF_3 rfl (i := 6 * prefF (y 1) (g c) c n + k) (by omega) (by decide) dX4_edit_91 ?_
  refine lv_iconst (v := nI 1) hx hb dX4_edit_92 (by decide) ?_
  refine lv_iload_n hx hb dX4_edit_93 rfl (lv_at hl 5 rfl) ?_
  refine r_bit hx hb dX4_edit_94 ?_
  refine lv_ior hx hb dX4_edit_95 ?_
  refine k_Wv (va_runV (As := [.int (nI (prefF (y 1) (g c) c n)), .int (nI 0), .int (nI k), .int ((y 3 (6 * prefF (y 1) (g c) c n + k)) ||| (bit w))]) (rest := []) hF (c_X4_sets l D cI cA ad (nI 0) n y (prefF (y 1) (g c) c n) 0 k ((y 3 (6 * prefF (y 1) (g c) c n + k)) ||| (bit w)) (by omega) (by omega) hk hn) (cwV 4 hts gX4_edit_X4_sets rfl rfl rfl (by decide +kernel) ⟨(Nat.le_of_ble_eq_true rfl), (Nat.le_of_ble_eq_true rfl)⟩) (k_pre hP hK hD hT (k := 0) (by decide) mF_0 rfl) rfl rfl hl.1 rfl (lv_room (Nat.le_of_ble_eq_true rfl)) dX4_edit_96 ⟨Nat.zero_le _, Nat.zero_le _⟩) hD hS (fun H locs hP hS => ?_)
  refine lv_iconst (v := nI 1) hx hb dX4_edit_99 (by decide) ?_
  refine lv_iload hx hb dX4_edit_100 (lv_at hl 0 rfl) ?_
  refine r_bit hx hb dX4_edit_102 ?_
  exact hret _ _ _ _ _ _ hP hS dX4_edit_103 (rfl) (rfl)
set_option maxHeartbeats 4000000 in
set_option maxRecDepth 100000 in
theorem m_edit_1 (l : Launch) (D : va_G) (cI : ClassId) (cA : ClassId) (ad : Nat → Nat) (th : Int32) (n : Nat) (y : Nat → Nat → Int32) (a : Int32) (k : Int32) (w : Int32) (hca : cardB n a = false) (hn : n ≤ 24) : Met l yX4_edit wsX4_edit ({ frames := 2, cells := 0, slots := 0, locals := 43 }) (va_Pc [.ref (ad 0), .int a, .int k, .int w] (mX D cI cA ad th n y)) (qW D ad (mF cI ad (nI 1) n y) 8 (some (.int (nI 0)))) 0 0 (wA ad 8) := by
  refine c_ofW (cc := cX4_edit) (maxL := 8) (ret := .int) (by decide) rfl rfl (Nat.le_of_ble_eq_true rfl) ?_
  intro p e s m av below meth cd Q hx hb hF hP hK hD hT hret ls hl
  have hown : s.vm.findClass RX4 = some m.cls := hF.2.2.2.1
  have hF : CallFix p m cd cX4_edit 8 s av wsX4_edit RX4 := hF
  have hts := hF.2.2.2.2
  have hl : lv_has ls 8 [(0, .ref (ad 0)), (1, .int a), (2, .int k), (3, .int w)] := hl
  obtain ⟨H, eH⟩ : ∃ H9 : Heap, H9 = s.heap := ⟨_, rfl⟩
  obtain ⟨locs, eL⟩ : ∃ L9 : List Loc, L9 = [] := ⟨_, rfl⟩
  have hS : sS (wA ad 8) s.heap H locs := by rw [eH, eL]; exact sS.rf
  rw [← eH] at hP
  suffices hgo : W p l e ({ frames := 2, cells := 0, slots := 0, locals := 43 }) s m av below meth cd H locs 0 0 Q (F0 m 0 ls []) by rw [eH, eL] at hgo; exact hgo
  clear eH eL
  refine lv_iload_n hx hb dX4_edit_0 rfl (lv_at hl 2 rfl) ?_
  refine k_Ri (va_runS (As := [.int k]) (rest := []) hF (c_X4_isKind l k) (va_cwS 1 hts gX4_edit_X4_isKind rfl rfl rfl (by decide +kernel) ⟨(Nat.le_of_ble_eq_true rfl), (Nat.le_of_ble_eq_true rfl)⟩) k_preS rfl rfl hl.1 rfl (lv_room (Nat.le_of_ble_eq_true rfl)) dX4_edit_1 ⟨Nat.zero_le _, Nat.zero_le _⟩) ?_
  have hJ22 : ∀ (H : Heap) (locs : List Loc), va_P D vwCl (wl ad (mF cI ad th n y) 8) H → sS (wA ad 8) s.heap H locs → ∀ ls : Array Slot, lv_has ls 8 [(0, .ref (ad 0)), (1, .int a), (2, .int k), (3, .int w)] → W p l e ({ frames := 2, cells := 0, slots := 0, locals := 43 }) s m av below meth cd H locs 0 0 Q (F0 m 22 ls [.int (bI (kindB k && valueB w))]) := by
    intro H locs hP hS ls hl
    refine lv_istore (lv' := [(4, .int (bI (kindB k && valueB w))), (0, .ref (ad 0)), (1, .int a), (2, .int k), (3, .int w)]) hx hb dX4_edit_22 hl (by decide) rfl (fun ls hl => ?_)
    refine lv_aload_n hx hb dX4_edit_24 rfl (lv_at hl 1 rfl) ?_
    refine lv_aload_n hx hb dX4_edit_25 rfl (lv_at hl 1 rfl) ?_
    refine lv_iload_n hx hb dX4_edit_26 rfl (lv_at hl 2 rfl) ?_
    refine k_Ri (va_runV (As := [.int a]) (rest := [.ref (ad 0)]) hF (c_X4_isCard l D cI cA ad th n y a hn) (cwV 1 hts gX4_edit_X4_isCard rfl rfl rfl (by decide +kernel) ⟨(Nat.le_of_ble_eq_true rfl), (Nat.le_of_ble_eq_true rfl)⟩) (k_pre hP hK hD hT (k := 0) (by decide) mF_0 rfl) rfl rfl hl.1 rfl (lv_room (Nat.le_of_ble_eq_true rfl)) dX4_edit_27 ⟨Nat.zero_le _, Nat.zero_le _⟩) ?_
    refine r_topi (show bI (cardB n a) = bI false from congrArg bI (hca)) ?_
    refine r_ifneB (b := false) (tgt := 37) hx hb dX4_edit_30 (by decide) (fun h => absurd h (by decide)) (fun _ => ?_)
    refine lv_iconst (v := nI 1) hx hb dX4_edit_33 (by decide) ?_
    refine lv_goto (tgt := 47) hx hb dX4_edit_34 (by decide) ?_
    refine k_Wi (va_runV (As := [.int (nI 1)]) (rest := []) hF (c_X4_isFine_1 l D cI cA ad th n y) (cwV 1 hts gX4_edit_X4_isFine rfl rfl rfl (by decide +kernel) ⟨(Nat.le_of_ble_eq_true rfl), (Nat.le_of_ble_eq_true rfl)⟩) (k_pre hP hK hD hT (k := 0) (by decide) mF_0 rfl) rfl rfl hl.1 rfl (lv_room (Nat.le_of_ble_eq_true rfl)) dX4_edit_47 ⟨Nat.zero_le _, Nat.zero_le _⟩) hD hS (fun H locs hP hS => ?_)
    refine r_ifneB (b := false) (tgt := 55) hx hb dX4_edit_50 (by decide) (fun h => absurd h (by decide)) (fun _ => ?_)
    refine lv_iconst (v := nI 0) hx hb dX4_edit_53 (by decide) ?_
    exact hret _ _ _ _ _ _ hP hS dX4_edit_54 (rfl) (rfl)
  refine r_ifeqB (b := kindB k) (tgt := 21) hx hb dX4_edit_4 (by decide) (fun h4_3 => ?_) (fun h4_3 => ?_)
  · refine lv_iconst (v := nI 0) hx hb dX4_edit_21 (by decide) ?_
    refine r_topi (show (nI 0 : Int32) = bI (kindB k && valueB w) from by simp [bI, h4_3]) ?_
    exact hJ22 _ _ hP hS _ (lv_sub hl [0, 1, 2, 3] rfl)
  · refine lv_iload_n hx hb dX4_edit_7 rfl (lv_at hl 3 rfl) ?_
    refine lv_iconst (v := nI 0) hx hb dX4_edit_8 (by decide) ?_
    refine lv_bipush (v := nI 29) hx hb dX4_edit_9 (by decide) ?_
    refine k_Ri (va_runS (As := [.int w, .int (nI 0), .int (nI 29)]) (rest := []) hF (c_X4_isIn l w (nI 0) (nI 29)) (va_cwS 3 hts gX4_edit_X4_isIn rfl rfl rfl (by decide +kernel) ⟨(Nat.le_of_ble_eq_true rfl), (Nat.le_of_ble_eq_true rfl)⟩) k_preS rfl rfl hl.1 rfl (lv_room (Nat.le_of_ble_eq_true rfl)) dX4_edit_11 ⟨Nat.zero_le _, Nat.zero_le _⟩) ?_
    refine r_topi (show bI (inB w (nI 0) (nI 29)) = bI (valueB w) from congrArg bI inB_value) ?_
    refine r_ifeqB (b := valueB w) (tgt := 21) hx hb dX4_edit_14 (by decide) (fun h14_4 => ?_) (fun h14_4 => ?_)
    · refine lv_iconst (v := nI 0) hx hb dX4_edit_21 (by decide) ?_
      refine r_topi (show (nI 0 : Int32) = bI (kindB k && valueB w) from by simp [bI, h4_3, h14_4]) ?_
      exact hJ22 _ _ hP hS _ (lv_sub hl [0, 1, 2, 3] rfl)
    · refine lv_iconst (v := nI 1) hx hb dX4_edit_17 (by decide) ?_
      refine lv_goto (tgt := 22) hx hb dX4_edit_18 (by decide) ?_
      refine r_topi (show (nI 1 : Int32) = bI (kindB k && valueB w) from by simp [bI, h4_3, h14_4]) ?_
      exact hJ22 _ _ hP hS _ (lv_sub hl [0, 1, 2, 3] rfl)
set_option maxHeartbeats 4000000 in
set_option maxRecDepth 100000 in
theorem m_edit_2 (l : Launch) (D : va_G) (cI : ClassId) (cA : ClassId) (ad : Nat → Nat) (th : Int32) (n : Nat) (y : Nat → Nat → Int32) (c : Nat) (k : Int32) (w : Int32) (hc : c < n) (hn : n ≤ 24) (hbad : (kindB k && valueB w) = false) : Met l yX4_edit wsX4_edit ({ frames := 2, cells := 0, slots := 0, locals := 43 }) (va_Pc [.ref (ad 0), .int (nI c), .int k, .int w] (mX D cI cA ad th n y)) (qW D ad (mF cI ad (nI 2) n y) 8 (some (.int (nI 0)))) 0 0 (wA ad 8) := by
  refine c_ofW (cc := cX4_edit) (maxL := 8) (ret := .int) (by decide) rfl rfl (Nat.le_of_ble_eq_true rfl) ?_
  intro p e s m av below meth cd Q hx hb hF hP hK hD hT hret ls hl
  have hown : s.vm.findClass RX4 = some m.cls := hF.2.2.2.1
  have hF : CallFix p m cd cX4_edit 8 s av wsX4_edit RX4 := hF
  have hts := hF.2.2.2.2
  have hl : lv_has ls 8 [(0, .ref (ad 0)), (1, .int (nI c)), (2, .int k), (3, .int w)] := hl
  obtain ⟨H, eH⟩ : ∃ H9 : Heap, H9 = s.heap := ⟨_, rfl⟩
  obtain ⟨locs, eL⟩ : ∃ L9 : List Loc, L9 = [] := ⟨_, rfl⟩
  have hS : sS (wA ad 8) s.heap H locs := by rw [eH, eL]; exact sS.rf
  rw [← eH] at hP
  suffices hgo : W p l e ({ frames := 2, cells := 0, slots := 0, locals := 43 }) s m av below meth cd H locs 0 0 Q (F0 m 0 ls []) by rw [eH, eL] at hgo; exact hgo
  clear eH eL
  refine lv_iload_n hx hb dX4_edit_0 rfl (lv_at hl 2 rfl) ?_
  refine k_Ri (va_runS (As := [.int k]) (rest := []) hF (c_X4_isKind l k) (va_cwS 1 hts gX4_edit_X4_isKind rfl rfl rfl (by decide +kernel) ⟨(Nat.le_of_ble_eq_true rfl), (Nat.le_of_ble_eq_true rfl)⟩) k_preS rfl rfl hl.1 rfl (lv_room (Nat.le_of_ble_eq_true rfl)) dX4_edit_1 ⟨Nat.zero_le _, Nat.zero_le _⟩) ?_
  have hJ22 : ∀ (H : Heap) (locs : List Loc), va_P D vwCl (wl ad (mF cI ad th n y) 8) H → sS (wA ad 8) s.heap H locs → ∀ ls : Array Slot, lv_has ls 8 [(0, .ref (ad 0)), (1, .int (nI c)), (2, .int k), (3, .int w)] → W p l e ({ frames := 2, cells := 0, slots := 0, locals := 43 }) s m av below meth cd H locs 0 0 Q (F0 m 22 ls [.int (bI (kindB k && valueB w))]) := by
    intro H locs hP hS ls hl
    refine lv_istore (lv' := [(4, .int (bI (kindB k && valueB w))), (0, .ref (ad 0)), (1, .int (nI c)), (2, .int k), (3, .int w)]) hx hb dX4_edit_22 hl (by decide) rfl (fun ls hl => ?_)
    refine lv_aload_n hx hb dX4_edit_24 rfl (lv_at hl 1 rfl) ?_
    refine lv_aload_n hx hb dX4_edit_25 rfl (lv_at hl 1 rfl) ?_
    refine lv_iload_n hx hb dX4_edit_26 rfl (lv_at hl 2 rfl) ?_
    refine k_Ri (va_runV (As := [.int (nI c)]) (rest := [.ref (ad 0)]) hF (c_X4_isCard l D cI cA ad th n y (nI c) hn) (cwV 1 hts gX4_edit_X4_isCard rfl rfl rfl (by decide +kernel) ⟨(Nat.le_of_ble_eq_true rfl), (Nat.le_of_ble_eq_true rfl)⟩) (k_pre hP hK hD hT (k := 0) (by decide) mF_0 rfl) rfl rfl hl.1 rfl (lv_room (Nat.le_of_ble_eq_true rfl)) dX4_edit_27 ⟨Nat.zero_le _, Nat.zero_le _⟩) ?_
    refine r_topi (show bI (cardB n (nI c)) = bI true from congrArg bI (cardB_ok hc hn)) ?_
    refine r_ifneB (b := true) (tgt := 37) hx hb dX4_edit_30 (by decide) (fun _ => ?_) (fun h => absurd h (by decide))
    refine lv_iload hx hb dX4_edit_37 (lv_at hl 0 rfl) ?_
    refine r_ifneB (b := kindB k && valueB w) (tgt := 46) hx hb dX4_edit_39 (by decide) (fun h => absurd (h.symm.trans hbad) (by decide)) (fun _ => ?_)
    refine lv_iconst (v := nI 2) hx hb dX4_edit_42 (by decide) ?_
    refine lv_goto (tgt := 47) hx hb dX4_edit_43 (by decide) ?_
    refine k_Wi (va_runV (As := [.int (nI 2)]) (rest := []) hF (c_X4_isFine_2 l D cI cA ad th n y) (cwV 1 hts gX4_edit_X4_isFine rfl rfl rfl (by decide +kernel) ⟨(Nat.le_of_ble_eq_true rfl), (Nat.le_of_ble_eq_true rfl)⟩) (k_pre hP hK hD hT (k := 0) (by decide) mF_0 rfl) rfl rfl hl.1 rfl (lv_room (Nat.le_of_ble_eq_true rfl)) dX4_edit_47 ⟨Nat.zero_le _, Nat.zero_le _⟩) hD hS (fun H locs hP hS => ?_)
    refine r_ifneB (b := false) (tgt := 55) hx hb dX4_edit_50 (by decide) (fun h => absurd h (by decide)) (fun _ => ?_)
    refine lv_iconst (v := nI 0) hx hb dX4_edit_53 (by decide) ?_
    exact hret _ _ _ _ _ _ hP hS dX4_edit_54 (rfl) (rfl)
  refine r_ifeqB (b := kindB k) (tgt := 21) hx hb dX4_edit_4 (by decide) (fun h4_4 => ?_) (fun h4_4 => ?_)
  · refine lv_iconst (v := nI 0) hx hb dX4_edit_21 (by decide) ?_
    refine r_topi (show (nI 0 : Int32) = bI (kindB k && valueB w) from by simp [bI, h4_4]) ?_
    exact hJ22 _ _ hP hS _ (lv_sub hl [0, 1, 2, 3] rfl)
  · refine lv_iload_n hx hb dX4_edit_7 rfl (lv_at hl 3 rfl) ?_
    refine lv_iconst (v := nI 0) hx hb dX4_edit_8 (by decide) ?_
    refine lv_bipush (v := nI 29) hx hb dX4_edit_9 (by decide) ?_
    refine k_Ri (va_runS (As := [.int w, .int (nI 0), .int (nI 29)]) (rest := []) hF (c_X4_isIn l w (nI 0) (nI 29)) (va_cwS 3 hts gX4_edit_X4_isIn rfl rfl rfl (by decide +kernel) ⟨(Nat.le_of_ble_eq_true rfl), (Nat.le_of_ble_eq_true rfl)⟩) k_preS rfl rfl hl.1 rfl (lv_room (Nat.le_of_ble_eq_true rfl)) dX4_edit_11 ⟨Nat.zero_le _, Nat.zero_le _⟩) ?_
    refine r_topi (show bI (inB w (nI 0) (nI 29)) = bI (valueB w) from congrArg bI inB_value) ?_
    refine r_ifeqB (b := valueB w) (tgt := 21) hx hb dX4_edit_14 (by decide) (fun h14_5 => ?_) (fun h14_5 => ?_)
    · refine lv_iconst (v := nI 0) hx hb dX4_edit_21 (by decide) ?_
      refine r_topi (show (nI 0 : Int32) = bI (kindB k && valueB w) from by simp [bI, h4_4, h14_5]) ?_
      exact hJ22 _ _ hP hS _ (lv_sub hl [0, 1, 2, 3] rfl)
    · refine lv_iconst (v := nI 1) hx hb dX4_edit_17 (by decide) ?_
      refine lv_goto (tgt := 22) hx hb dX4_edit_18 (by decide) ?_
      refine r_topi (show (nI 1 : Int32) = bI (kindB k && valueB w) from by simp [bI, h4_4, h14_5]) ?_
      exact hJ22 _ _ hP hS _ (lv_sub hl [0, 1, 2, 3] rfl)
