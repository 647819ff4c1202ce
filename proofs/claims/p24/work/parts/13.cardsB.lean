set_option maxHeartbeats 4000000 in
set_option maxRecDepth 100000 in
theorem c_X0_putName (l : Launch) (D : va_G) (cI : ClassId) (cA : ClassId) (ad : Nat → Nat) (n : Nat) (x : Nat → Nat → Int32) (c : Nat) (v : Nat) (w : Int32) (hc : c < 24) (hv : v < 3) : Met l yX0_putName wsX0_putName ({ frames := 0, cells := 0, slots := 0, locals := 0 }) (va_Pc [.ref (ad 1), .int (nI c), .int (nI v), .int w] (cX D cI cA ad n x)) (qW D ad (cF cI cA ad n (putN x c v w)) 46 none) 0 0 (wA ad 46) := by
  refine c_ofV (cc := cX0_putName) (maxL := 4) (by decide) rfl (Nat.le_of_ble_eq_true rfl) ?_
  intro p e s m av below meth cd Q hx hb hF hP hK hD hT hret ls hl
  have hown : s.vm.findClass RX0 = some m.cls := hF.2.2.2.1
  have hF : CallFix p m cd cX0_putName 4 s av wsX0_putName RX0 := hF
  have hts := hF.2.2.2.2
  have hl : lv_has ls 4 [(0, .ref (ad 1)), (1, .int (nI c)), (2, .int (nI v)), (3, .int w)] := hl
  obtain ⟨H, eH⟩ : ∃ H9 : Heap, H9 = s.heap := ⟨_, rfl⟩
  obtain ⟨locs, eL⟩ : ∃ L9 : List Loc, L9 = [] := ⟨_, rfl⟩
  have hS : sS (wA ad 46) s.heap H locs := by rw [eH, eL]; exact sS.rf
  rw [← eH] at hP
  suffices hgo : W p l e ({ frames := 0, cells := 0, slots := 0, locals := 0 }) s m av below meth cd H locs 0 0 Q (F0 m 0 ls []) by rw [eH, eL] at hgo; exact hgo
  clear eH eL
  refine lv_iload_n hx hb dX0_putName_0 rfl (lv_at hl 2 rfl) ?_
  refine r_ifneN (a := v) (tgt := 26) hx hb (by omega) dX0_putName_1 (by decide) (fun h1_1 => ?_) (fun h1_1 => ?_)
  · refine lv_aload_n hx hb dX0_putName_26 rfl (lv_at hl 0 rfl) ?_
    refine r_get (C := RX0) (T := TX0) (M := 5) (index := 17) (fd := "names") (fo := "[[I") hx hb hts (by decide +kernel) hown hK hP 1 (by decide) cF_1 rfl 1 (by decide) rfl (by decide +kernel) rfl dX0_putName_27 ?_
    refine lv_iload_n hx hb dX0_putName_30 rfl (lv_at hl 2 rfl) ?_
    refine r_aald (g := fun j => j + 13) hx hb hK hP 5 1 (by decide) cF_5 rfl (i := v) (by omega) (by decide) dX0_putName_31 ?_
    refine lv_iload_n hx hb dX0_putName_32 rfl (lv_at hl 1 rfl) ?_
    refine lv_iload_n hx hb dX0_putName_33 rfl (lv_at hl 3 rfl) ?_
    refine r_iast (f' := cF cI cA ad n (up2 x (v + 13) c w)) hx hb hK hP hD hS (v + 13) 0 (by omega) (cF_a (by omega)) rfl (i := c) (by omega) (by decide) (cF_up (by omega)) dX0_putName_34 (fun H locs hP hS => ?_)
    exact hret _ _ _ _ _ hP hS dX0_putName_35 (by first | rw [putN_a (by assumption) (by assumption)] | rw [putN_b (by assumption)] | rw [putN_c (by assumption)])
  · refine lv_aload_n hx hb dX0_putName_4 rfl (lv_at hl 0 rfl) ?_
    refine r_get (C := RX0) (T := TX0) (M := 5) (index := 17) (fd := "names") (fo := "[[I") hx hb hts (by decide +kernel) hown hK hP 1 (by decide) cF_1 rfl 1 (by decide) rfl (by decide +kernel) rfl dX0_putName_5 ?_
    refine lv_iload_n hx hb dX0_putName_8 rfl (lv_at hl 2 rfl) ?_
    refine r_aald (g := fun j => j + 13) hx hb hK hP 5 1 (by decide) cF_5 rfl (i := v) (by omega) (by decide) dX0_putName_9 ?_
    refine lv_iload_n hx hb dX0_putName_10 rfl (lv_at hl 1 rfl) ?_
    refine r_iald hx hb hK hP (v + 13) 0 (by omega) (cF_a (by omega)) rfl (i := c) (by omega) (by decide) dX0_putName_11 ?_
    refine lv_iload_n hx hb dX0_putName_12 rfl (lv_at hl 3 rfl) ?_
    refine lv_icmp_eq (tgt := 26) hx hb dX0_putName_13 (by decide) (fun h13_2 => ?_) (fun h13_2 => ?_)
    · refine lv_aload_n hx hb dX0_putName_26 rfl (lv_at hl 0 rfl) ?_
      refine r_get (C := RX0) (T := TX0) (M := 5) (index := 17) (fd := "names") (fo := "[[I") hx hb hts (by decide +kernel) hown hK hP 1 (by decide) cF_1 rfl 1 (by decide) rfl (by decide +kernel) rfl dX0_putName_27 ?_
      refine lv_iload_n hx hb dX0_putName_30 rfl (lv_at hl 2 rfl) ?_
      refine r_aald (g := fun j => j + 13) hx hb hK hP 5 1 (by decide) cF_5 rfl (i := v) (by omega) (by decide) dX0_putName_31 ?_
      refine lv_iload_n hx hb dX0_putName_32 rfl (lv_at hl 1 rfl) ?_
      refine lv_iload_n hx hb dX0_putName_33 rfl (lv_at hl 3 rfl) ?_
      refine r_iast (f' := cF cI cA ad n (up2 x (v + 13) c w)) hx hb hK hP hD hS (v + 13) 0 (by omega) (cF_a (by omega)) rfl (i := c) (by omega) (by decide) (cF_up (by omega)) dX0_putName_34 (fun H locs hP hS => ?_)
      exact hret _ _ _ _ _ hP hS dX0_putName_35 (by first | rw [putN_a (by assumption) (by assumption)] | rw [putN_b (by assumption)] | rw [putN_c (by assumption)])
    · refine lv_aload_n hx hb dX0_putName_16 rfl (lv_at hl 0 rfl) ?_
      refine r_get (C := RX0) (T := TX0) (M := 5) (index := 23) (fd := "mineChanges") (fo := "[I") hx hb hts (by decide +kernel) hown hK hP 1 (by decide) cF_1 rfl 3 (by decide) rfl (by decide +kernel) rfl dX0_putName_17 ?_
      refine lv_iload_n hx hb dX0_putName_20 rfl (lv_at hl 1 rfl) ?_
      refine lv_dup2_11 hx hb dX0_putName_21 rfl rfl ?_
      refine r_iald hx hb hK hP 7 0 (by omega) (cF_a (by omega)) rfl (i := c) (by omega) (by decide) dX0_putName_22 ?_
      refine lv_iconst (v := nI 1) hx hb dX0_putName_23 (by decide) ?_
      refine lv_iadd hx hb dX0_putName_24 ?_
      refine r_iast (f' := cF cI cA ad n (up2 x 7 c ((x 7 c) + (nI 1)))) hx hb hK hP hD hS 7 0 (by omega) (cF_a (by omega)) rfl (i := c) (by omega) (by decide) (cF_up (by omega)) dX0_putName_25 (fun H locs hP hS => ?_)
      refine lv_aload_n hx hb dX0_putName_26 rfl (lv_at hl 0 rfl) ?_
      refine r_get (C := RX0) (T := TX0) (M := 5) (index := 17) (fd := "names") (fo := "[[I") hx hb hts (by decide +kernel) hown hK hP 1 (by decide) cF_1 rfl 1 (by decide) rfl (by decide +kernel) rfl dX0_putName_27 ?_
      refine lv_iload_n hx hb dX0_putName_30 rfl (lv_at hl 2 rfl) ?_
      refine r_aald (g := fun j => j + 13) hx hb hK hP 5 1 (by decide) cF_5 rfl (i := v) (by omega) (by decide) dX0_putName_31 ?_
      refine lv_iload_n hx hb dX0_putName_32 rfl (lv_at hl 1 rfl) ?_
      refine lv_iload_n hx hb dX0_putName_33 rfl (lv_at hl 3 rfl) ?_
      refine r_iast (f' := cF cI cA ad n (up2 (up2 x 7 c ((x 7 c) + (nI 1))) (v + 13) c w)) hx hb hK hP hD hS (v + 13) 0 (by omega) (cF_a (by omega)) rfl (i := c) (by omega) (by decide) (cF_up (by omega)) dX0_putName_34 (fun H locs hP hS => ?_)
      exact hret _ _ _ _ _ hP hS dX0_putName_35 (by first | rw [putN_a (by assumption) (by assumption)] | rw [putN_b (by assumption)] | rw [putN_c (by assumption)])
set_option maxHeartbeats 4000000 in
set_option maxRecDepth 100000 in
theorem c_X0_putSet (l : Launch) (D : va_G) (cI : ClassId) (cA : ClassId) (ad : Nat → Nat) (n : Nat) (x : Nat → Nat → Int32) (c : Nat) (v : Nat) (k : Nat) (w : Int32) (hc : c < 24) (hv : v < 3) (hk : k < 2) : Met l yX0_putSet wsX0_putSet ({ frames := 1, cells := 0, slots := 0, locals := 23 }) (va_Pc [.ref (ad 1), .int (nI c), .int (nI v), .int (nI k), .int w] (cX D cI cA ad n x)) (qW D ad (cF cI cA ad n (putS x c v k w)) 46 none) 0 0 (wA ad 46) := by
  refine c_ofV (cc := cX0_putSet) (maxL := 5) (by decide) rfl (Nat.le_of_ble_eq_true rfl) ?_
  intro p e s m av below meth cd Q hx hb hF hP hK hD hT hret ls hl
  have hown : s.vm.findClass RX0 = some m.cls := hF.2.2.2.1
  have hF : CallFix p m cd cX0_putSet 5 s av wsX0_putSet RX0 := hF
  have hts := hF.2.2.2.2
  have hl : lv_has ls 5 [(0, .ref (ad 1)), (1, .int (nI c)), (2, .int (nI v)), (3, .int (nI k)), (4, .int w)] := hl
  obtain ⟨H, eH⟩ : ∃ H9 : Heap, H9 = s.heap := ⟨_, rfl⟩
  obtain ⟨locs, eL⟩ : ∃ L9 : List Loc, L9 = [] := ⟨_, rfl⟩
  have hS : sS (wA ad 46) s.heap H locs := by rw [eH, eL]; exact sS.rf
  rw [← eH] at hP
  suffices hgo : W p l e ({ frames := 1, cells := 0, slots := 0, locals := 23 }) s m av below meth cd H locs 0 0 Q (F0 m 0 ls []) by rw [eH, eL] at hgo; exact hgo
  clear eH eL
  refine lv_iload_n hx hb dX0_putSet_0 rfl (lv_at hl 2 rfl) ?_
  refine r_ifneN (a := v) (tgt := 26) hx hb (by omega) dX0_putSet_1 (by decide) (fun h1_1 => ?_) (fun h1_1 => ?_)
  · refine lv_aload_n hx hb dX0_putSet_26 rfl (lv_at hl 0 rfl) ?_
    refine r_get (C := RX0) (T := TX0) (M := 5) (index := 20) (fd := "sets") (fo := "[[I") hx hb hts (by decide +kernel) hown hK hP 1 (by decide) cF_1 rfl 2 (by decide) rfl (by decide +kernel) rfl dX0_putSet_27 ?_
    refine lv_iload_n hx hb dX0_putSet_30 rfl (lv_at hl 2 rfl) ?_
    refine lv_iconst (v := nI 2) hx hb dX0_putSet_31 (by decide) ?_
    refine r_mulN (a := v) (b := 2) (r := 2 * v) hx hb dX0_putSet_32 (by omega) ?_
    refine lv_iload_n hx hb dX0_putSet_33 rfl (lv_at hl 3 rfl) ?_
    refine r_addN (a := 2 * v) (b := k) (r := 2 * v + k) hx hb dX0_putSet_34 (by omega) ?_
    refine r_aald (g := fun j => j + 16) hx hb hK hP 6 1 (by decide) cF_6 rfl (i := 2 * v + k) (by omega) (by decide) dX0_putSet_35 ?_
    refine lv_iload_n hx hb dX0_putSet_36 rfl (lv_at hl 1 rfl) ?_
    refine lv_iload hx hb dX0_putSet_37 (lv_at hl 4 rfl) ?_
    refine r_iast (f' := cF cI cA ad n (up2 x (2 * v + k + 16) c w)) hx hb hK hP hD hS (2 * v + k + 16) 0 (by omega) (cF_a (by omega)) rfl (i := c) (by omega) (by decide) (cF_up (by omega)) dX0_putSet_39 (fun H locs hP hS => ?_)
    exact hret _ _ _ _ _ hP hS dX0_putSet_40 (by first | rw [putS_a (by assumption) (by assumption)] | rw [putS_b (by assumption)] | rw [putS_c (by assumption)])
  · refine lv_aload_n hx hb dX0_putSet_4 rfl (lv_at hl 0 rfl) ?_
    refine lv_iload_n hx hb dX0_putSet_5 rfl (lv_at hl 1 rfl) ?_
    refine lv_iload_n hx hb dX0_putSet_6 rfl (lv_at hl 2 rfl) ?_
    refine lv_iload_n hx hb dX0_putSet_7 rfl (lv_at hl 3 rfl) ?_
    refine k_Ri (va_runV (As := [.int (nI c), .int (nI v), .int (nI k)]) (rest := []) hF (c_X0_setOf l D cI cA ad n x c v k hc hv hk) (cwV 3 hts gX0_putSet_X0_setOf rfl rfl rfl (by decide +kernel) ⟨(Nat.le_of_ble_eq_true rfl), (Nat.le_of_ble_eq_true rfl)⟩) (k_pre hP hK hD hT (k := 1) (by decide) cF_1 rfl) rfl rfl hl.1 rfl (lv_room (Nat.le_of_ble_eq_true rfl)) dX0_putSet_8 ⟨Nat.zero_le _, Nat.zero_le _⟩) ?_
    refine lv_iload hx hb dX0_putSet_11 (lv_at hl 4 rfl) ?_
    refine lv_icmp_eq (tgt := 26) hx hb dX0_putSet_13 (by decide) (fun h13_2 => ?_) (fun h13_2 => ?_)
    · refine lv_aload_n hx hb dX0_putSet_26 rfl (lv_at hl 0 rfl) ?_
      refine r_get (C := RX0) (T := TX0) (M := 5) (index := 20) (fd := "sets") (fo := "[[I") hx hb hts (by decide +kernel) hown hK hP 1 (by decide) cF_1 rfl 2 (by decide) rfl (by decide +kernel) rfl dX0_putSet_27 ?_
      refine lv_iload_n hx hb dX0_putSet_30 rfl (lv_at hl 2 rfl) ?_
      refine lv_iconst (v := nI 2) hx hb dX0_putSet_31 (by decide) ?_
      refine r_mulN (a := v) (b := 2) (r := 2 * v) hx hb dX0_putSet_32 (by omega) ?_
      refine lv_iload_n hx hb dX0_putSet_33 rfl (lv_at hl 3 rfl) ?_
      refine r_addN (a := 2 * v) (b := k) (r := 2 * v + k) hx hb dX0_putSet_34 (by omega) ?_
      refine r_aald (g := fun j => j + 16) hx hb hK hP 6 1 (by decide) cF_6 rfl (i := 2 * v + k) (by omega) (by decide) dX0_putSet_35 ?_
      refine lv_iload_n hx hb dX0_putSet_36 rfl (lv_at hl 1 rfl) ?_
      refine lv_iload hx hb dX0_putSet_37 (lv_at hl 4 rfl) ?_
      refine r_iast (f' := cF cI cA ad n (up2 x (2 * v + k + 16) c w)) hx hb hK hP hD hS (2 * v + k + 16) 0 (by omega) (cF_a (by omega)) rfl (i := c) (by omega) (by decide) (cF_up (by omega)) dX0_putSet_39 (fun H locs hP hS => ?_)
      exact hret _ _ _ _ _ hP hS dX0_putSet_40 (by first | rw [putS_a (by assumption) (by assumption)] | rw [putS_b (by assumption)] | rw [putS_c (by assumption)])
    · refine lv_aload_n hx hb dX0_putSet_16 rfl (lv_at hl 0 rfl) ?_
      refine r_get (C := RX0) (T := TX0) (M := 5) (index := 23) (fd := "mineChanges") (fo := "[I") hx hb hts (by decide +kernel) hown hK hP 1 (by decide) cF_1 rfl 3 (by decide) rfl (by decide +kernel) rfl dX0_putSet_17 ?_
      refine lv_iload_n hx hb dX0_putSet_20 rfl (lv_at hl 1 rfl) ?_
      refine lv_dup2_11 hx hb dX0_putSet_21 rfl rfl ?_
      refine r_iald hx hb hK hP 7 0 (by omega) (cF_a (by omega)) rfl (i := c) (by omega) (by decide) dX0_putSet_22 ?_
      refine lv_iconst (v := nI 1) hx hb dX0_putSet_23 (by decide) ?_
      refine lv_iadd hx hb dX0_putSet_24 ?_
      refine r_iast (f' := cF cI cA ad n (up2 x 7 c ((x 7 c) + (nI 1)))) hx hb hK hP hD hS 7 0 (by omega) (cF_a (by omega)) rfl (i := c) (by omega) (by decide) (cF_up (by omega)) dX0_putSet_25 (fun H locs hP hS => ?_)
      refine lv_aload_n hx hb dX0_putSet_26 rfl (lv_at hl 0 rfl) ?_
      refine r_get (C := RX0) (T := TX0) (M := 5) (index := 20) (fd := "sets") (fo := "[[I") hx hb hts (by decide +kernel) hown hK hP 1 (by decide) cF_1 rfl 2 (by decide) rfl (by decide +kernel) rfl dX0_putSet_27 ?_
      refine lv_iload_n hx hb dX0_putSet_30 rfl (lv_at hl 2 rfl) ?_
      refine lv_iconst (v := nI 2) hx hb dX0_putSet_31 (by decide) ?_
      refine r_mulN (a := v) (b := 2) (r := 2 * v) hx hb dX0_putSet_32 (by omega) ?_
      refine lv_iload_n hx hb dX0_putSet_33 rfl (lv_at hl 3 rfl) ?_
      refine r_addN (a := 2 * v) (b := k) (r := 2 * v + k) hx hb dX0_putSet_34 (by omega) ?_
      refine r_aald (g := fun j => j + 16) hx hb hK hP 6 1 (by decide) cF_6 rfl (i := 2 * v + k) (by omega) (by decide) dX0_putSet_35 ?_
      refine lv_iload_n hx hb dX0_putSet_36 rfl (lv_at hl 1 rfl) ?_
      refine lv_iload hx hb dX0_putSet_37 (lv_at hl 4 rfl) ?_
      refine r_iast (f' := cF cI cA ad n (up2 (up2 x 7 c ((x 7 c) + (nI 1))) (2 * v + k + 16) c w)) hx hb hK hP hD hS (2 * v + k + 16) 0 (by omega) (cF_a (by omega)) rfl (i := c) (by omega) (by decide) (cF_up (by omega)) dX0_putSet_39 (fun H locs hP hS => ?_)
      exact hret _ _ _ _ _ hP hS dX0_putSet_40 (by first | rw [putS_a (by assumption) (by assumption)] | rw [putS_b (by assumption)] | rw [putS_c (by assumption)])
set_option maxHeartbeats 4000000 in
set_option maxRecDepth 100000 in
theorem c_X0_mineChangesOf (l : Launch) (D : va_G) (cI : ClassId) (cA : ClassId) (ad : Nat → Nat) (n : Nat) (x : Nat → Nat → Int32) (c : Nat) (d : Nat) (hc : c < 24) (hd : d < 24) : Met l yX0_mineChangesOf wsX0_mineChangesOf ({ frames := 0, cells := 0, slots := 0, locals := 0 }) (va_Pc [.ref (ad 1), .int (nI c), .int (nI d)] (cX D cI cA ad n x)) (qR (some (.int (mcOf x c d)))) 0 0 nF := by
  refine c_ofR (cc := cX0_mineChangesOf) (maxL := 3) (ret := .int) (by decide) rfl rfl (Nat.le_of_ble_eq_true rfl) ?_
  intro p e s m av below meth cd Q hx hb hF hP hK hD hT hret ls hl
  have hown : s.vm.findClass RX0 = some m.cls := hF.2.2.2.1
  have hF : CallFix p m cd cX0_mineChangesOf 3 s av wsX0_mineChangesOf RX0 := hF
  have hts := hF.2.2.2.2
  have hl : lv_has ls 3 [(0, .ref (ad 1)), (1, .int (nI c)), (2, .int (nI d))] := hl
  refine lv_aload_n hx hb dX0_mineChangesOf_0 rfl (lv_at hl 0 rfl) ?_
  refine r_get (C := RX0) (T := TX0) (M := 5) (index := 23) (fd := "mineChanges") (fo := "[I") hx hb hts (by decide +kernel) hown hK hP 1 (by decide) cF_1 rfl 3 (by decide) rfl (by decide +kernel) rfl dX0_mineChangesOf_1 ?_
  refine lv_iload_n hx hb dX0_mineChangesOf_4 rfl (lv_at hl 1 rfl) ?_
  refine r_iald hx hb hK hP 7 0 (by omega) (cF_a (by omega)) rfl (i := c) (by omega) (by decide) dX0_mineChangesOf_5 ?_
  refine lv_aload_n hx hb dX0_mineChangesOf_6 rfl (lv_at hl 0 rfl) ?_
  refine r_get (C := RX0) (T := TX0) (M := 5) (index := 23) (fd := "mineChanges") (fo := "[I") hx hb hts (by decide +kernel) hown hK hP 1 (by decide) cF_1 rfl 3 (by decide) rfl (by decide +kernel) rfl dX0_mineChangesOf_7 ?_
  refine lv_iload_n hx hb dX0_mineChangesOf_10 rfl (lv_at hl 2 rfl) ?_
  refine r_iald hx hb hK hP 7 0 (by omega) (cF_a (by omega)) rfl (i := d) (by omega) (by decide) dX0_mineChangesOf_11 ?_
  refine lv_iadd hx hb dX0_mineChangesOf_12 ?_
  exact hret _ _ _ dX0_mineChangesOf_13 (rfl)
set_option maxHeartbeats 4000000 in
set_option maxRecDepth 100000 in
theorem c_X0_mergedSet (l : Launch) (D : va_G) (cI : ClassId) (cA : ClassId) (ad : Nat → Nat) (n : Nat) (x : Nat → Nat → Int32) (c : Nat) (k : Nat) (hc : c < 24) (hk : k < 2) : Met l yX0_mergedSet wsX0_mergedSet ({ frames := 1, cells := 0, slots := 0, locals := 23 }) (va_Pc [.ref (ad 1), .int (nI c), .int (nI k)] (cX D cI cA ad n x)) (qR (some (.int (cSt x c k)))) 0 0 nF := by
  refine c_ofR (cc := cX0_mergedSet) (maxL := 6) (ret := .int) (by decide) rfl rfl (Nat.le_of_ble_eq_true rfl) ?_
  intro p e s m av below meth cd Q hx hb hF hP hK hD hT hret ls hl
  have hown : s.vm.findClass RX0 = some m.cls := hF.2.2.2.1
  have hF : CallFix p m cd cX0_mergedSet 6 s av wsX0_mergedSet RX0 := hF
  have hts := hF.2.2.2.2
  have hl : lv_has ls 6 [(0, .ref (ad 1)), (1, .int (nI c)), (2, .int (nI k))] := hl
  refine lv_aload_n hx hb dX0_mergedSet_0 rfl (lv_at hl 0 rfl) ?_
  refine lv_iload_n hx hb dX0_mergedSet_1 rfl (lv_at hl 1 rfl) ?_
  refine lv_iconst (v := nI 0) hx hb dX0_mergedSet_2 (by decide) ?_
  refine lv_iload_n hx hb dX0_mergedSet_3 rfl (lv_at hl 2 rfl) ?_
  refine k_Ri (va_runV (As := [.int (nI c), .int (nI 0), .int (nI k)]) (rest := []) hF (c_X0_setOf_0 l D cI cA ad n x c k hc hk) (cwV 3 hts gX0_mergedSet_X0_setOf rfl rfl rfl (by decide +kernel) ⟨(Nat.le_of_ble_eq_true rfl), (Nat.le_of_ble_eq_true rfl)⟩) (k_pre hP hK hD hT (k := 1) (by decide) cF_1 rfl) rfl rfl hl.1 rfl (lv_room (Nat.le_of_ble_eq_true rfl)) dX0_mergedSet_4 ⟨Nat.zero_le _, Nat.zero_le _⟩) ?_
  refine lv_istore_n (lv' := [(3, .int (x (k + 16) c)), (0, .ref (ad 1)), (1, .int (nI c)), (2, .int (nI k))]) hx hb dX0_mergedSet_7 rfl hl (by decide) rfl (fun ls hl => ?_)
  refine lv_aload_n hx hb dX0_mergedSet_8 rfl (lv_at hl 1 rfl) ?_
  refine lv_iload_n hx hb dX0_mergedSet_9 rfl (lv_at hl 2 rfl) ?_
  refine lv_iconst (v := nI 1) hx hb dX0_mergedSet_10 (by decide) ?_
  refine lv_iload_n hx hb dX0_mergedSet_11 rfl (lv_at hl 3 rfl) ?_
  refine k_Ri (va_runV (As := [.int (nI c), .int (nI 1), .int (nI k)]) (rest := []) hF (c_X0_setOf_1 l D cI cA ad n x c k hc hk) (cwV 3 hts gX0_mergedSet_X0_setOf rfl rfl rfl (by decide +kernel) ⟨(Nat.le_of_ble_eq_true rfl), (Nat.le_of_ble_eq_true rfl)⟩) (k_pre hP hK hD hT (k := 1) (by decide) cF_1 rfl) rfl rfl hl.1 rfl (lv_room (Nat.le_of_ble_eq_true rfl)) dX0_mergedSet_12 ⟨Nat.zero_le _, Nat.zero_le _⟩) ?_
  refine lv_istore (lv' := [(4, .int (x (k + 18) c)), (3, .int (x (k + 16) c)), (0, .ref (ad 1)), (1, .int (nI c)), (2, .int (nI k))]) hx hb dX0_mergedSet_15 hl (by decide) rfl (fun ls hl => ?_)
  refine lv_aload_n hx hb dX0_mergedSet_17 rfl (lv_at hl 2 rfl) ?_
  refine lv_iload_n hx hb dX0_mergedSet_18 rfl (lv_at hl 3 rfl) ?_
  refine lv_iconst (v := nI 2) hx hb dX0_mergedSet_19 (by decide) ?_
  refine lv_iload_n hx hb dX0_mergedSet_20 rfl (lv_at hl 4 rfl) ?_
  refine k_Ri (va_runV (As := [.int (nI c), .int (nI 2), .int (nI k)]) (rest := []) hF (c_X0_setOf_2 l D cI cA ad n x c k hc hk) (cwV 3 hts gX0_mergedSet_X0_setOf rfl rfl rfl (by decide +kernel) ⟨(Nat.le_of_ble_eq_true rfl), (Nat.le_of_ble_eq_true rfl)⟩) (k_pre hP hK hD hT (k := 1) (by decide) cF_1 rfl) rfl rfl hl.1 rfl (lv_room (Nat.le_of_ble_eq_true rfl)) dX0_mergedSet_21 ⟨Nat.zero_le _, Nat.zero_le _⟩) ?_
  refine lv_istore (lv' := [(5, .int (x (k + 20) c)), (4, .int (x (k + 18) c)), (3, .int (x (k + 16) c)), (0, .ref (ad 1)), (1, .int (nI c)), (2, .int (nI k))]) hx hb dX0_mergedSet_24 hl (by decide) rfl (fun ls hl => ?_)
  refine lv_iload_n hx hb dX0_mergedSet_26 rfl (lv_at hl 2 rfl) ?_
  refine lv_iload hx hb dX0_mergedSet_27 (lv_at hl 1 rfl) ?_
  refine lv_iand hx hb dX0_mergedSet_29 ?_
  refine lv_iload_n hx hb dX0_mergedSet_30 rfl (lv_at hl 2 rfl) ?_
  refine lv_iload hx hb dX0_mergedSet_31 (lv_at hl 1 rfl) ?_
  refine lv_ixor hx hb dX0_mergedSet_33 ?_
  refine lv_iload hx hb dX0_mergedSet_34 (lv_at hl 0 rfl) ?_
  refine lv_iconst (v := (-1)) hx hb dX0_mergedSet_36 (by decide) ?_
  refine lv_ixor hx hb dX0_mergedSet_37 ?_
  refine lv_iand hx hb dX0_mergedSet_38 ?_
  refine lv_ior hx hb dX0_mergedSet_39 ?_
  exact hret _ _ _ dX0_mergedSet_40 (rfl)
set_option maxHeartbeats 4000000 in
set_option maxRecDepth 100000 in
theorem c_X0_mergedName (l : Launch) (D : va_G) (cI : ClassId) (cA : ClassId) (ad : Nat → Nat) (n : Nat) (x : Nat → Nat → Int32) (c : Nat) (hc : c < 24) : Met l yX0_mergedName wsX0_mergedName ({ frames := 1, cells := 0, slots := 0, locals := 22 }) (va_Pc [.ref (ad 1), .int (nI c)] (cX D cI cA ad n x)) (qR (some (.int (cNm x c)))) 0 0 nF := by
  refine c_ofR (cc := cX0_mergedName) (maxL := 3) (ret := .int) (by decide) rfl rfl (Nat.le_of_ble_eq_true rfl) ?_
  intro p e s m av below meth cd Q hx hb hF hP hK hD hT hret ls hl
  have hown : s.vm.findClass RX0 = some m.cls := hF.2.2.2.1
  have hF : CallFix p m cd cX0_mergedName 3 s av wsX0_mergedName RX0 := hF
  have hts := hF.2.2.2.2
  have hl : lv_has ls 3 [(0, .ref (ad 1)), (1, .int (nI c))] := hl
  refine lv_aload_n hx hb dX0_mergedName_0 rfl (lv_at hl 0 rfl) ?_
  refine lv_iload_n hx hb dX0_mergedName_1 rfl (lv_at hl 1 rfl) ?_
  refine lv_iconst (v := nI 0) hx hb dX0_mergedName_2 (by decide) ?_
  refine k_Ri (va_runV (As := [.int (nI c), .int (nI 0)]) (rest := []) hF (c_X0_nameIn_0 l D cI cA ad n x c hc) (cwV 2 hts gX0_mergedName_X0_nameIn rfl rfl rfl (by decide +kernel) ⟨(Nat.le_of_ble_eq_true rfl), (Nat.le_of_ble_eq_true rfl)⟩) (k_pre hP hK hD hT (k := 1) (by decide) cF_1 rfl) rfl rfl hl.1 rfl (lv_room (Nat.le_of_ble_eq_true rfl)) dX0_mergedName_3 ⟨Nat.zero_le _, Nat.zero_le _⟩) ?_
  refine lv_istore_n (lv' := [(2, .int (x 13 c)), (0, .ref (ad 1)), (1, .int (nI c))]) hx hb dX0_mergedName_6 rfl hl (by decide) rfl (fun ls hl => ?_)
  refine lv_iload_n hx hb dX0_mergedName_7 rfl (lv_at hl 0 rfl) ?_
  refine lv_aload_n hx hb dX0_mergedName_8 rfl (lv_at hl 1 rfl) ?_
  refine lv_iload_n hx hb dX0_mergedName_9 rfl (lv_at hl 2 rfl) ?_
  refine lv_iconst (v := nI 2) hx hb dX0_mergedName_10 (by decide) ?_
  refine k_Ri (va_runV (As := [.int (nI c), .int (nI 2)]) (rest := [.int (x 13 c)]) hF (c_X0_nameIn_2 l D cI cA ad n x c hc) (cwV 2 hts gX0_mergedName_X0_nameIn rfl rfl rfl (by decide +kernel) ⟨(Nat.le_of_ble_eq_true rfl), (Nat.le_of_ble_eq_true rfl)⟩) (k_pre hP hK hD hT (k := 1) (by decide) cF_1 rfl) rfl rfl hl.1 rfl (lv_room (Nat.le_of_ble_eq_true rfl)) dX0_mergedName_11 ⟨Nat.zero_le _, Nat.zero_le _⟩) ?_
  refine lv_icmp_ne (tgt := 26) hx hb dX0_mergedName_14 (by decide) (fun h14_1 => ?_) (fun h14_1 => ?_)
  · refine lv_iload_n hx hb dX0_mergedName_26 rfl (lv_at hl 0 rfl) ?_
    exact hret _ _ _ dX0_mergedName_27 (by simp [cNm, mrgN, h14_1])
  · refine lv_aload_n hx hb dX0_mergedName_17 rfl (lv_at hl 1 rfl) ?_
    refine lv_iload_n hx hb dX0_mergedName_18 rfl (lv_at hl 2 rfl) ?_
    refine lv_iconst (v := nI 1) hx hb dX0_mergedName_19 (by decide) ?_
    refine k_Ri (va_runV (As := [.int (nI c), .int (nI 1)]) (rest := []) hF (c_X0_nameIn_1 l D cI cA ad n x c hc) (cwV 2 hts gX0_mergedName_X0_nameIn rfl rfl rfl (by decide +kernel) ⟨(Nat.le_of_ble_eq_true rfl), (Nat.le_of_ble_eq_true rfl)⟩) (k_pre hP hK hD hT (k := 1) (by decide) cF_1 rfl) rfl rfl hl.1 rfl (lv_room (Nat.le_of_ble_eq_true rfl)) dX0_mergedName_20 ⟨Nat.zero_le _, Nat.zero_le _⟩) ?_
    refine lv_goto (tgt := 27) hx hb dX0_mergedName_23 (by decide) ?_
    exact hret _ _ _ dX0_mergedName_27 (by simp [cNm, mrgN, h14_1])
set_option maxHeartbeats 4000000 in
set_option maxRecDepth 100000 in
theorem c_X0_namesClash (l : Launch) (D : va_G) (cI : ClassId) (cA : ClassId) (ad : Nat → Nat) (n : Nat) (x : Nat → Nat → Int32) (c : Nat) (hc : c < 24) : Met l yX0_namesClash wsX0_namesClash ({ frames := 1, cells := 0, slots := 0, locals := 22 }) (va_Pc [.ref (ad 1), .int (nI c)] (cX D cI cA ad n x)) (qR (some (.int (bI (clB (x 13 c) (x 14 c) (x 15 c)))))) 0 0 nF := by
  refine c_ofR (cc := cX0_namesClash) (maxL := 5) (ret := .boolean) (by decide) rfl (nar_bI _) (Nat.le_of_ble_eq_true rfl) ?_
  intro p e s m av below meth cd Q hx hb hF hP hK hD hT hret ls hl
  have hown : s.vm.findClass RX0 = some m.cls := hF.2.2.2.1
  have hF : CallFix p m cd cX0_namesClash 5 s av wsX0_namesClash RX0 := hF
  have hts := hF.2.2.2.2
  have hl : lv_has ls 5 [(0, .ref (ad 1)), (1, .int (nI c))] := hl
  refine lv_aload_n hx hb dX0_namesClash_0 rfl (lv_at hl 0 rfl) ?_
  refine lv_iload_n hx hb dX0_namesClash_1 rfl (lv_at hl 1 rfl) ?_
  refine lv_iconst (v := nI 0) hx hb dX0_namesClash_2 (by decide) ?_
  refine k_Ri (va_runV (As := [.int (nI c), .int (nI 0)]) (rest := []) hF (c_X0_nameIn_0 l D cI cA ad n x c hc) (cwV 2 hts gX0_namesClash_X0_nameIn rfl rfl rfl (by decide +kernel) ⟨(Nat.le_of_ble_eq_true rfl), (Nat.le_of_ble_eq_true rfl)⟩) (k_pre hP hK hD hT (k := 1) (by decide) cF_1 rfl) rfl rfl hl.1 rfl (lv_room (Nat.le_of_ble_eq_true rfl)) dX0_namesClash_3 ⟨Nat.zero_le _, Nat.zero_le _⟩) ?_
  refine lv_istore_n (lv' := [(2, .int (x 13 c)), (0, .ref (ad 1)), (1, .int (nI c))]) hx hb dX0_namesClash_6 rfl hl (by decide) rfl (fun ls hl => ?_)
  refine lv_aload_n hx hb dX0_namesClash_7 rfl (lv_at hl 1 rfl) ?_
  refine lv_iload_n hx hb dX0_namesClash_8 rfl (lv_at hl 2 rfl) ?_
  refine lv_iconst (v := nI 1) hx hb dX0_namesClash_9 (by decide) ?_
  refine k_Ri (va_runV (As := [.int (nI c), .int (nI 1)]) (rest := []) hF (c_X0_nameIn_1 l D cI cA ad n x c hc) (cwV 2 hts gX0_namesClash_X0_nameIn rfl rfl rfl (by decide +kernel) ⟨(Nat.le_of_ble_eq_true rfl), (Nat.le_of_ble_eq_true rfl)⟩) (k_pre hP hK hD hT (k := 1) (by decide) cF_1 rfl) rfl rfl hl.1 rfl (lv_room (Nat.le_of_ble_eq_true rfl)) dX0_namesClash_10 ⟨Nat.zero_le _, Nat.zero_le _⟩) ?_
  refine lv_istore_n (lv' := [(3, .int (x 14 c)), (2, .int (x 13 c)), (0, .ref (ad 1)), (1, .int (nI c))]) hx hb dX0_namesClash_13 rfl hl (by decide) rfl (fun ls hl => ?_)
  refine lv_aload_n hx hb dX0_namesClash_14 rfl (lv_at hl 2 rfl) ?_
  refine lv_iload_n hx hb dX0_namesClash_15 rfl (lv_at hl 3 rfl) ?_
  refine lv_iconst (v := nI 2) hx hb dX0_namesClash_16 (by decide) ?_
  refine k_Ri (va_runV (As := [.int (nI c), .int (nI 2)]) (rest := []) hF (c_X0_nameIn_2 l D cI cA ad n x c hc) (cwV 2 hts gX0_namesClash_X0_nameIn rfl rfl rfl (by decide +kernel) ⟨(Nat.le_of_ble_eq_true rfl), (Nat.le_of_ble_eq_true rfl)⟩) (k_pre hP hK hD hT (k := 1) (by decide) cF_1 rfl) rfl rfl hl.1 rfl (lv_room (Nat.le_of_ble_eq_true rfl)) dX0_namesClash_17 ⟨Nat.zero_le _, Nat.zero_le _⟩) ?_
  refine lv_istore (lv' := [(4, .int (x 15 c)), (3, .int (x 14 c)), (2, .int (x 13 c)), (0, .ref (ad 1)), (1, .int (nI c))]) hx hb dX0_namesClash_20 hl (by decide) rfl (fun ls hl => ?_)
  refine lv_iload_n hx hb dX0_namesClash_22 rfl (lv_at hl 2 rfl) ?_
  refine lv_iload_n hx hb dX0_namesClash_23 rfl (lv_at hl 1 rfl) ?_
  refine lv_icmp_eq (tgt := 43) hx hb dX0_namesClash_24 (by decide) (fun h24_1 => ?_) (fun h24_1 => ?_)
  · refine lv_iconst (v := nI 0) hx hb dX0_namesClash_43 (by decide) ?_
    exact hret _ _ _ dX0_namesClash_44 (by simp [clB, bI, h24_1])
  · refine lv_iload_n hx hb dX0_namesClash_27 rfl (lv_at hl 2 rfl) ?_
    refine lv_iload hx hb dX0_namesClash_28 (lv_at hl 0 rfl) ?_
    refine lv_icmp_eq (tgt := 43) hx hb dX0_namesClash_30 (by decide) (fun h30_2 => ?_) (fun h30_2 => ?_)
    · refine lv_iconst (v := nI 0) hx hb dX0_namesClash_43 (by decide) ?_
      exact hret _ _ _ dX0_namesClash_44 (by simp [clB, bI, h24_1, h30_2])
    · refine lv_iload_n hx hb dX0_namesClash_33 rfl (lv_at hl 1 rfl) ?_
      refine lv_iload hx hb dX0_namesClash_34 (lv_at hl 0 rfl) ?_
      refine lv_icmp_eq (tgt := 43) hx hb dX0_namesClash_36 (by decide) (fun h36_3 => ?_) (fun h36_3 => ?_)
      · refine lv_iconst (v := nI 0) hx hb dX0_namesClash_43 (by decide) ?_
        exact hret _ _ _ dX0_namesClash_44 (by simp [clB, bI, h24_1, h30_2, h36_3])
      · refine lv_iconst (v := nI 1) hx hb dX0_namesClash_39 (by decide) ?_
        refine lv_goto (tgt := 44) hx hb dX0_namesClash_40 (by decide) ?_
        exact hret _ _ _ dX0_namesClash_44 (by simp [clB, bI, h24_1, h30_2, h36_3])
set_option maxHeartbeats 4000000 in
set_option maxRecDepth 100000 in
theorem c_X0_mergedSetByValues (l : Launch) (D : va_G) (cI : ClassId) (cA : ClassId) (ad : Nat → Nat) (n : Nat) (x : Nat → Nat → Int32) (c : Nat) (k : Nat) (hc : c < 24) (hk : k < 2) : Met l yX0_mergedSetByValues wsX0_mergedSetByValues ({ frames := 1, cells := 0, slots := 0, locals := 23 }) (va_Pc [.ref (ad 1), .int (nI c), .int (nI k)] (cX D cI cA ad n x)) (qR (some (.int (byV (x (k + 16) c) (x (k + 18) c) (x (k + 20) c) 30)))) 0 0 nF := by
  refine c_ofR (cc := cX0_mergedSetByValues) (maxL := 13) (ret := .int) (by decide) rfl rfl (Nat.le_of_ble_eq_true rfl) ?_
  intro p e s m av below meth cd Q hx hb hF hP hK hD hT hret ls hl
  have hown : s.vm.findClass RX0 = some m.cls := hF.2.2.2.1
  have hF : CallFix p m cd cX0_mergedSetByValues 13 s av wsX0_mergedSetByValues RX0 := hF
  have hts := hF.2.2.2.2
  have hl : lv_has ls 13 [(0, .ref (ad 1)), (1, .int (nI c)), (2, .int (nI k))] := hl
  refine lv_aload_n hx hb dX0_mergedSetByValues_0 rfl (lv_at hl 0 rfl) ?_
  refine lv_iload_n hx hb dX0_mergedSetByValues_1 rfl (lv_at hl 1 rfl) ?_
  refine lv_iconst (v := nI 0) hx hb dX0_mergedSetByValues_2 (by decide) ?_
  refine lv_iload_n hx hb dX0_mergedSetByValues_3 rfl (lv_at hl 2 rfl) ?_
  refine k_Ri (va_runV (As := [.int (nI c), .int (nI 0), .int (nI k)]) (rest := []) hF (c_X0_setOf_0 l D cI cA ad n x c k hc hk) (cwV 3 hts gX0_mergedSetByValues_X0_setOf rfl rfl rfl (by decide +kernel) ⟨(Nat.le_of_ble_eq_true rfl), (Nat.le_of_ble_eq_true rfl)⟩) (k_pre hP hK hD hT (k := 1) (by decide) cF_1 rfl) rfl rfl hl.1 rfl (lv_room (Nat.le_of_ble_eq_true rfl)) dX0_mergedSetByValues_4 ⟨Nat.zero_le _, Nat.zero_le _⟩) ?_
  refine lv_istore_n (lv' := [(3, .int (x (k + 16) c)), (0, .ref (ad 1)), (1, .int (nI c)), (2, .int (nI k))]) hx hb dX0_mergedSetByValues_7 rfl hl (by decide) rfl (fun ls hl => ?_)
  refine lv_aload_n hx hb dX0_mergedSetByValues_8 rfl (lv_at hl 1 rfl) ?_
  refine lv_iload_n hx hb dX0_mergedSetByValues_9 rfl (lv_at hl 2 rfl) ?_
  refine lv_iconst (v := nI 1) hx hb dX0_mergedSetByValues_10 (by decide) ?_
  refine lv_iload_n hx hb dX0_mergedSetByValues_11 rfl (lv_at hl 3 rfl) ?_
  refine k_Ri (va_runV (As := [.int (nI c), .int (nI 1), .int (nI k)]) (rest := []) hF (c_X0_setOf_1 l D cI cA ad n x c k hc hk) (cwV 3 hts gX0_mergedSetByValues_X0_setOf rfl rfl rfl (by decide +kernel) ⟨(Nat.le_of_ble_eq_true rfl), (Nat.le_of_ble_eq_true rfl)⟩) (k_pre hP hK hD hT (k := 1) (by decide) cF_1 rfl) rfl rfl hl.1 rfl (lv_room (Nat.le_of_ble_eq_true rfl)) dX0_mergedSetByValues_12 ⟨Nat.zero_le _, Nat.zero_le _⟩) ?_
  refine lv_istore (lv' := [(4, .int (x (k + 18) c)), (3, .int (x (k + 16) c)), (0, .ref (ad 1)), (1, .int (nI c)), (2, .int (nI k))]) hx hb dX0_mergedSetByValues_15 hl (by decide) rfl (fun ls hl => ?_)
  refine lv_aload_n hx hb dX0_mergedSetByValues_17 rfl (lv_at hl 2 rfl) ?_
  refine lv_iload_n hx hb dX0_mergedSetByValues_18 rfl (lv_at hl 3 rfl) ?_
  refine lv_iconst (v := nI 2) hx hb dX0_mergedSetByValues_19 (by decide) ?_
  refine lv_iload_n hx hb dX0_mergedSetByValues_20 rfl (lv_at hl 4 rfl) ?_
  refine k_Ri (va_runV (As := [.int (nI c), .int (nI 2), .int (nI k)]) (rest := []) hF (c_X0_setOf_2 l D cI cA ad n x c k hc hk) (cwV 3 hts gX0_mergedSetByValues_X0_setOf rfl rfl rfl (by decide +kernel) ⟨(Nat.le_of_ble_eq_true rfl), (Nat.le_of_ble_eq_true rfl)⟩) (k_pre hP hK hD hT (k := 1) (by decide) cF_1 rfl) rfl rfl hl.1 rfl (lv_room (Nat.le_of_ble_eq_true rfl)) dX0_mergedSetByValues_21 ⟨Nat.zero_le _, Nat.zero_le _⟩) ?_
  refine lv_istore (lv' := [(5, .int (x (k + 20) c)), (4, .int (x (k + 18) c)), (3, .int (x (k + 16) c)), (0, .ref (ad 1)), (1, .int (nI c)), (2, .int (nI k))]) hx hb dX0_mergedSetByValues_24 hl (by decide) rfl (fun ls hl => ?_)
  refine lv_iconst (v := nI 0) hx hb dX0_mergedSetByValues_26 (by decide) ?_
  refine lv_istore (lv' := [(6, .int (nI 0)), (5, .int (x (k + 20) c)), (4, .int (x (k + 18) c)), (3, .int (x (k + 16) c)), (0, .ref (ad 1)), (1, .int (nI c)), (2, .int (nI k))]) hx hb dX0_mergedSetByValues_27 hl (by decide) rfl (fun ls hl => ?_)
  refine lv_iconst (v := nI 0) hx hb dX0_mergedSetByValues_29 (by decide) ?_
  refine lv_istore (lv' := [(7, .int (nI 0)), (6, .int (nI 0)), (5, .int (x (k + 20) c)), (4, .int (x (k + 18) c)), (3, .int (x (k + 16) c)), (0, .ref (ad 1)), (1, .int (nI c)), (2, .int (nI k))]) hx hb dX0_mergedSetByValues_30 hl (by decide) rfl (fun ls hl => ?_)
  have hL32 : ∀ i : Nat, i ≤ 30 → ∀ ls : Array Slot, lv_has ls 13 [(0, .ref (ad 1)), (3, .int (x (k + 16) c)), (4, .int (x (k + 18) c)), (5, .int (x (k + 20) c)), (6, .int (byV (x (k + 16) c) (x (k + 18) c) (x (k + 20) c) i)), (7, .int (nI i))] → W p l e ({ frames := 1, cells := 0, slots := 0, locals := 23 }) s m av below meth cd s.heap [] 0 0 Q (F0 m 32 ls []) := by
    refine down (30) ?_ ?_
    · intro ls hl
      refine lv_iload hx hb dX0_mergedSetByValues_32 (lv_at hl 5 rfl) ?_
      refine lv_bipush (v := nI 30) hx hb dX0_mergedSetByValues_34 (by decide) ?_
      refine r_cgeN (a := 30) (b := 30) (tgt := 139) hx hb (by omega) (by omega) dX0_mergedSetByValues_36 (by decide) (fun _ => ?_) (fun h => absurd h (by omega))
      refine lv_iload hx hb dX0_mergedSetByValues_139 (lv_at hl 4 rfl) ?_
      exact hret _ _ _ dX0_mergedSetByValues_141 (rfl)
    · intro i hi32 ih32 ls hl
      refine lv_iload hx hb dX0_mergedSetByValues_32 (lv_at hl 5 rfl) ?_
      refine lv_bipush (v := nI 30) hx hb dX0_mergedSetByValues_34 (by decide) ?_
      refine r_cgeN (a := i) (b := 30) (tgt := 139) hx hb (by omega) (by omega) dX0_mergedSetByValues_36 (by decide) (fun h => absurd h (by omega)) (fun _ => ?_)
      refine lv_iload_n hx hb dX0_mergedSetByValues_39 rfl (lv_at hl 1 rfl) ?_
      refine lv_iload hx hb dX0_mergedSetByValues_40 (lv_at hl 5 rfl) ?_
      refine k_Ri (va_runSN (As := [.int (x (k + 16) c), .int (nI i)]) (rest := []) hF (c_X3_has l i (x (k + 16) c)) ⟨va_cnB 2 hts gX0_mergedSetByValues_X3_has_n34 rfl rfl rfl hT.2.1 (hts (.initialized RX3) (by decide +kernel)) (by decide +kernel) ⟨(Nat.le_of_ble_eq_true rfl), (Nat.le_of_ble_eq_true rfl)⟩, hts (.static yX3_has) (by decide +kernel), trivial⟩ k_preS rfl rfl hl.1 rfl (lv_room (Nat.le_of_ble_eq_true rfl)) dX0_mergedSetByValues_42 ⟨Nat.zero_le _, Nat.zero_le _⟩) ?_
      refine lv_istore (lv' := [(8, .int (bI (hasB (x (k + 16) c) i))), (0, .ref (ad 1)), (3, .int (x (k + 16) c)), (4, .int (x (k + 18) c)), (5, .int (x (k + 20) c)), (6, .int (byV (x (k + 16) c) (x (k + 18) c) (x (k + 20) c) i)), (7, .int (nI i))]) hx hb dX0_mergedSetByValues_45 hl (by decide) rfl (fun ls hl => ?_)
      refine lv_iload hx hb dX0_mergedSetByValues_47 (lv_at hl 3 rfl) ?_
      refine lv_iload hx hb dX0_mergedSetByValues_49 (lv_at hl 6 rfl) ?_
      refine k_Ri (va_runSN (As := [.int (x (k + 18) c), .int (nI i)]) (rest := []) hF (c_X3_has l i (x (k + 18) c)) ⟨va_cnB 2 hts gX0_mergedSetByValues_X3_has_n34 rfl rfl rfl hT.2.1 (hts (.initialized RX3) (by decide +kernel)) (by decide +kernel) ⟨(Nat.le_of_ble_eq_true rfl), (Nat.le_of_ble_eq_true rfl)⟩, hts (.static yX3_has) (by decide +kernel), trivial⟩ k_preS rfl rfl hl.1 rfl (lv_room (Nat.le_of_ble_eq_true rfl)) dX0_mergedSetByValues_51 ⟨Nat.zero_le _, Nat.zero_le _⟩) ?_
      refine lv_istore (lv' := [(9, .int (bI (hasB (x (k + 18) c) i))), (8, .int (bI (hasB (x (k + 16) c) i))), (0, .ref (ad 1)), (3, .int (x (k + 16) c)), (4, .int (x (k + 18) c)), (5, .int (x (k + 20) c)), (6, .int (byV (x (k + 16) c) (x (k + 18) c) (x (k + 20) c) i)), (7, .int (nI i))]) hx hb dX0_mergedSetByValues_54 hl (by decide) rfl (fun ls hl => ?_)
      refine lv_iload hx hb dX0_mergedSetByValues_56 (lv_at hl 5 rfl) ?_
      refine lv_iload hx hb dX0_mergedSetByValues_58 (lv_at hl 7 rfl) ?_
      refine k_Ri (va_runSN (As := [.int (x (k + 20) c), .int (nI i)]) (rest := []) hF (c_X3_has l i (x (k + 20) c)) ⟨va_cnB 2 hts gX0_mergedSetByValues_X3_has_n34 rfl rfl rfl hT.2.1 (hts (.initialized RX3) (by decide +kernel)) (by decide +kernel) ⟨(Nat.le_of_ble_eq_true rfl), (Nat.le_of_ble_eq_true rfl)⟩, hts (.static yX3_has) (by decide +kernel), trivial⟩ k_preS rfl rfl hl.1 rfl (lv_room (Nat.le_of_ble_eq_true rfl)) dX0_mergedSetByValues_60 ⟨Nat.zero_le _, Nat.zero_le _⟩) ?_
      refine lv_istore (lv' := [(10, .int (bI (hasB (x (k + 20) c) i))), (9, .int (bI (hasB (x (k + 18) c) i))), (8, .int (bI (hasB (x (k + 16) c) i))), (0, .ref (ad 1)), (3, .int (x (k + 16) c)), (4, .int (x (k + 18) c)), (5, .int (x (k + 20) c)), (6, .int (byV (x (k + 16) c) (x (k + 18) c) (x (k + 20) c) i)), (7, .int (nI i))]) hx hb dX0_mergedSetByValues_63 hl (by decide) rfl (fun ls hl => ?_)
      rcases Bool.eq_false_or_eq_true (hasB (x (k + 20) c) i) with e3 | e3
      · rw [e3] at hl
        rcases Bool.eq_false_or_eq_true (hasB (x (k + 16) c) i) with e4 | e4
        · rw [e4] at hl
          rcases Bool.eq_false_or_eq_true (hasB (x (k + 18) c) i) with e5 | e5
          · rw [e5] at hl
            refine lv_iload hx hb dX0_mergedSetByValues_65 (lv_at hl 0 rfl) ?_
            refine r_ifneB (b := true) (tgt := 84) hx hb dX0_mergedSetByValues_67 (by decide) (fun _ => ?_) (fun h => absurd h (by decide))
            refine lv_iconst (v := nI 0) hx hb dX0_mergedSetByValues_84 (by decide) ?_
            refine lv_istore (lv' := [(11, .int (nI 0)), (10, .int (bI true)), (9, .int (bI true)), (8, .int (bI true)), (0, .ref (ad 1)), (3, .int (x (k + 16) c)), (4, .int (x (k + 18) c)), (5, .int (x (k + 20) c)), (6, .int (byV (x (k + 16) c) (x (k + 18) c) (x (k + 20) c) i)), (7, .int (nI i))]) hx hb dX0_mergedSetByValues_85 hl (by decide) rfl (fun ls hl => ?_)
            refine lv_iload hx hb dX0_mergedSetByValues_87 (lv_at hl 1 rfl) ?_
            refine r_ifeqB (b := true) (tgt := 106) hx hb dX0_mergedSetByValues_89 (by decide) (fun h => absurd h (by decide)) (fun _ => ?_)
            refine lv_iload hx hb dX0_mergedSetByValues_92 (lv_at hl 3 rfl) ?_
            refine r_ifeqB (b := true) (tgt := 102) hx hb dX0_mergedSetByValues_94 (by decide) (fun h => absurd h (by decide)) (fun _ => ?_)
            refine lv_iload hx hb dX0_mergedSetByValues_97 (lv_at hl 2 rfl) ?_
            refine r_ifneB (b := true) (tgt := 106) hx hb dX0_mergedSetByValues_99 (by decide) (fun _ => ?_) (fun h => absurd h (by decide))
            refine lv_iconst (v := nI 0) hx hb dX0_mergedSetByValues_106 (by decide) ?_
            refine lv_istore (lv' := [(12, .int (nI 0)), (11, .int (nI 0)), (10, .int (bI true)), (9, .int (bI true)), (8, .int (bI true)), (0, .ref (ad 1)), (3, .int (x (k + 16) c)), (4, .int (x (k + 18) c)), (5, .int (x (k + 20) c)), (6, .int (byV (x (k + 16) c) (x (k + 18) c) (x (k + 20) c) i)), (7, .int (nI i))]) hx hb dX0_mergedSetByValues_107 hl (by decide) rfl (fun ls hl => ?_)
            refine lv_iload hx hb dX0_mergedSetByValues_109 (lv_at hl 1 rfl) ?_
            refine r_ifneN (a := 0) (tgt := 124) hx hb (by omega) dX0_mergedSetByValues_111 (by decide) (fun h => absurd h (by omega)) (fun _ => ?_)
            refine lv_iload hx hb dX0_mergedSetByValues_114 (lv_at hl 2 rfl) ?_
            refine r_ifeqB (b := true) (tgt := 133) hx hb dX0_mergedSetByValues_116 (by decide) (fun h => absurd h (by decide)) (fun _ => ?_)
            refine lv_iload hx hb dX0_mergedSetByValues_119 (lv_at hl 0 rfl) ?_
            refine r_ifneN (a := 0) (tgt := 133) hx hb (by omega) dX0_mergedSetByValues_121 (by decide) (fun h => absurd h (by omega)) (fun _ => ?_)
            refine lv_iload hx hb dX0_mergedSetByValues_124 (lv_at hl 9 rfl) ?_
            refine lv_iconst (v := nI 1) hx hb dX0_mergedSetByValues_126 (by decide) ?_
            refine lv_iload hx hb dX0_mergedSetByValues_127 (lv_at hl 10 rfl) ?_
            refine r_bit hx hb dX0_mergedSetByValues_129 ?_
            refine lv_ior hx hb dX0_mergedSetByValues_130 ?_
            refine lv_istore (lv' := [(6, .int ((byV (x (k + 16) c) (x (k + 18) c) (x (k + 20) c) i) ||| (bit i))), (12, .int (nI 0)), (11, .int (nI 0)), (10, .int (bI true)), (9, .int (bI true)), (8, .int (bI true)), (0, .ref (ad 1)), (3, .int (x (k + 16) c)), (4, .int (x (k + 18) c)), (5, .int (x (k + 20) c)), (7, .int (nI i))]) hx hb dX0_mergedSetByValues_131 hl (by decide) rfl (fun ls hl => ?_)
            refine r_iincN (k := 10) (a := i) (d := 1) (r := i + 1) (lv' := [(7, .int (nI (i + 1))), (6, .int ((byV (x (k + 16) c) (x (k + 18) c) (x (k + 20) c) i) ||| (bit i))), (12, .int (nI 0)), (11, .int (nI 0)), (10, .int (bI true)), (9, .int (bI true)), (8, .int (bI true)), (0, .ref (ad 1)), (3, .int (x (k + 16) c)), (4, .int (x (k + 18) c)), (5, .int (x (k + 20) c))]) hx hb dX0_mergedSetByValues_133 hl rfl (by omega) (by decide) rfl (fun ls hl => ?_)
            refine lv_goto (tgt := 32) hx hb dX0_mergedSetByValues_136 (by decide) ?_
            exact ih32 _ (lv_cast (lv_sub (l' := [(0, .ref (ad 1)), (3, .int (x (k + 16) c)), (4, .int (x (k + 18) c)), (5, .int (x (k + 20) c)), (6, .int ((byV (x (k + 16) c) (x (k + 18) c) (x (k + 20) c) i) ||| (bit i))), (7, .int (nI (i + 1)))]) hl [7, 8, 9, 10, 1, 0] rfl) (by rw [show (byV (x (k + 16) c) (x (k + 18) c) (x (k + 20) c) (i + 1) : Int32) = (byV (x (k + 16) c) (x (k + 18) c) (x (k + 20) c) i) ||| (bit i) from by simp [byV, byB, e3, e4, e5]]))
          · rw [e5] at hl
            refine lv_iload hx hb dX0_mergedSetByValues_65 (lv_at hl 0 rfl) ?_
            refine r_ifneB (b := true) (tgt := 84) hx hb dX0_mergedSetByValues_67 (by decide) (fun _ => ?_) (fun h => absurd h (by decide))
            refine lv_iconst (v := nI 0) hx hb dX0_mergedSetByValues_84 (by decide) ?_
            refine lv_istore (lv' := [(11, .int (nI 0)), (10, .int (bI true)), (9, .int (bI false)), (8, .int (bI true)), (0, .ref (ad 1)), (3, .int (x (k + 16) c)), (4, .int (x (k + 18) c)), (5, .int (x (k + 20) c)), (6, .int (byV (x (k + 16) c) (x (k + 18) c) (x (k + 20) c) i)), (7, .int (nI i))]) hx hb dX0_mergedSetByValues_85 hl (by decide) rfl (fun ls hl => ?_)
            refine lv_iload hx hb dX0_mergedSetByValues_87 (lv_at hl 1 rfl) ?_
            refine r_ifeqB (b := true) (tgt := 106) hx hb dX0_mergedSetByValues_89 (by decide) (fun h => absurd h (by decide)) (fun _ => ?_)
            refine lv_iload hx hb dX0_mergedSetByValues_92 (lv_at hl 3 rfl) ?_
            refine r_ifeqB (b := true) (tgt := 102) hx hb dX0_mergedSetByValues_94 (by decide) (fun h => absurd h (by decide)) (fun _ => ?_)
            refine lv_iload hx hb dX0_mergedSetByValues_97 (lv_at hl 2 rfl) ?_
            refine r_ifneB (b := false) (tgt := 106) hx hb dX0_mergedSetByValues_99 (by decide) (fun h => absurd h (by decide)) (fun _ => ?_)
            refine lv_iconst (v := nI 1) hx hb dX0_mergedSetByValues_102 (by decide) ?_
            refine lv_goto (tgt := 107) hx hb dX0_mergedSetByValues_103 (by decide) ?_
            refine lv_istore (lv' := [(12, .int (nI 1)), (11, .int (nI 0)), (10, .int (bI true)), (9, .int (bI false)), (8, .int (bI true)), (0, .ref (ad 1)), (3, .int (x (k + 16) c)), (4, .int (x (k + 18) c)), (5, .int (x (k + 20) c)), (6, .int (byV (x (k + 16) c) (x (k + 18) c) (x (k + 20) c) i)), (7, .int (nI i))]) hx hb dX0_mergedSetByValues_107 hl (by decide) rfl (fun ls hl => ?_)
            refine lv_iload hx hb dX0_mergedSetByValues_109 (lv_at hl 1 rfl) ?_
            refine r_ifneN (a := 0) (tgt := 124) hx hb (by omega) dX0_mergedSetByValues_111 (by decide) (fun h => absurd h (by omega)) (fun _ => ?_)
            refine lv_iload hx hb dX0_mergedSetByValues_114 (lv_at hl 2 rfl) ?_
            refine r_ifeqB (b := true) (tgt := 133) hx hb dX0_mergedSetByValues_116 (by decide) (fun h => absurd h (by decide)) (fun _ => ?_)
            refine lv_iload hx hb dX0_mergedSetByValues_119 (lv_at hl 0 rfl) ?_
            refine r_ifneN (a := 1) (tgt := 133) hx hb (by omega) dX0_mergedSetByValues_121 (by decide) (fun _ => ?_) (fun h => absurd h (by omega))
            refine r_iincN (k := 10) (a := i) (d := 1) (r := i + 1) (lv' := [(7, .int (nI (i + 1))), (12, .int (nI 1)), (11, .int (nI 0)), (10, .int (bI true)), (9, .int (bI false)), (8, .int (bI true)), (0, .ref (ad 1)), (3, .int (x (k + 16) c)), (4, .int (x (k + 18) c)), (5, .int (x (k + 20) c)), (6, .int (byV (x (k + 16) c) (x (k + 18) c) (x (k + 20) c) i))]) hx hb dX0_mergedSetByValues_133 hl rfl (by omega) (by decide) rfl (fun ls hl => ?_)
            refine lv_goto (tgt := 32) hx hb dX0_mergedSetByValues_136 (by decide) ?_
            exact ih32 _ (lv_cast (lv_sub (l' := [(0, .ref (ad 1)), (3, .int (x (k + 16) c)), (4, .int (x (k + 18) c)), (5, .int (x (k + 20) c)), (6, .int (byV (x (k + 16) c) (x (k + 18) c) (x (k + 20) c) i)), (7, .int (nI (i + 1)))]) hl [6, 7, 8, 9, 10, 0] rfl) (by rw [show (byV (x (k + 16) c) (x (k + 18) c) (x (k + 20) c) (i + 1) : Int32) = byV (x (k + 16) c) (x (k + 18) c) (x (k + 20) c) i from by simp [byV, byB, e3, e4, e5]]))
        · rw [e4] at hl
          rcases Bool.eq_false_or_eq_true (hasB (x (k + 18) c) i) with e20 | e20
          · rw [e20] at hl
            refine lv_iload hx hb dX0_mergedSetByValues_65 (lv_at hl 0 rfl) ?_
            refine r_ifneB (b := true) (tgt := 84) hx hb dX0_mergedSetByValues_67 (by decide) (fun _ => ?_) (fun h => absurd h (by decide))
            refine lv_iconst (v := nI 0) hx hb dX0_mergedSetByValues_84 (by decide) ?_
            refine lv_istore (lv' := [(11, .int (nI 0)), (10, .int (bI true)), (9, .int (bI true)), (8, .int (bI false)), (0, .ref (ad 1)), (3, .int (x (k + 16) c)), (4, .int (x (k + 18) c)), (5, .int (x (k + 20) c)), (6, .int (byV (x (k + 16) c) (x (k + 18) c) (x (k + 20) c) i)), (7, .int (nI i))]) hx hb dX0_mergedSetByValues_85 hl (by decide) rfl (fun ls hl => ?_)
            refine lv_iload hx hb dX0_mergedSetByValues_87 (lv_at hl 1 rfl) ?_
            refine r_ifeqB (b := true) (tgt := 106) hx hb dX0_mergedSetByValues_89 (by decide) (fun h => absurd h (by decide)) (fun _ => ?_)
            refine lv_iload hx hb dX0_mergedSetByValues_92 (lv_at hl 3 rfl) ?_
            refine r_ifeqB (b := false) (tgt := 102) hx hb dX0_mergedSetByValues_94 (by decide) (fun _ => ?_) (fun h => absurd h (by decide))
            refine lv_iconst (v := nI 1) hx hb dX0_mergedSetByValues_102 (by decide) ?_
            refine lv_goto (tgt := 107) hx hb dX0_mergedSetByValues_103 (by decide) ?_
            refine lv_istore (lv' := [(12, .int (nI 1)), (11, .int (nI 0)), (10, .int (bI true)), (9, .int (bI true)), (8, .int (bI false)), (0, .ref (ad 1)), (3, .int (x (k + 16) c)), (4, .int (x (k + 18) c)), (5, .int (x (k + 20) c)), (6, .int (byV (x (k + 16) c) (x (k + 18) c) (x (k + 20) c) i)), (7, .int (nI i))]) hx hb dX0_mergedSetByValues_107 hl (by decide) rfl (fun ls hl => ?_)
            refine lv_iload hx hb dX0_mergedSetByValues_109 (lv_at hl 1 rfl) ?_
            refine r_ifneN (a := 0) (tgt := 124) hx hb (by omega) dX0_mergedSetByValues_111 (by decide) (fun h => absurd h (by omega)) (fun _ => ?_)
            refine lv_iload hx hb dX0_mergedSetByValues_114 (lv_at hl 2 rfl) ?_
            refine r_ifeqB (b := true) (tgt := 133) hx hb dX0_mergedSetByValues_116 (by decide) (fun h => absurd h (by decide)) (fun _ => ?_)
            refine lv_iload hx hb dX0_mergedSetByValues_119 (lv_at hl 0 rfl) ?_
            refine r_ifneN (a := 1) (tgt := 133) hx hb (by omega) dX0_mergedSetByValues_121 (by decide) (fun _ => ?_) (fun h => absurd h (by omega))
            refine r_iincN (k := 10) (a := i) (d := 1) (r := i + 1) (lv' := [(7, .int (nI (i + 1))), (12, .int (nI 1)), (11, .int (nI 0)), (10, .int (bI true)), (9, .int (bI true)), (8, .int (bI false)), (0, .ref (ad 1)), (3, .int (x (k + 16) c)), (4, .int (x (k + 18) c)), (5, .int (x (k + 20) c)), (6, .int (byV (x (k + 16) c) (x (k + 18) c) (x (k + 20) c) i))]) hx hb dX0_mergedSetByValues_133 hl rfl (by omega) (by decide) rfl (fun ls hl => ?_)
            refine lv_goto (tgt := 32) hx hb dX0_mergedSetByValues_136 (by decide) ?_
            exact ih32 _ (lv_cast (lv_sub (l' := [(0, .ref (ad 1)), (3, .int (x (k + 16) c)), (4, .int (x (k + 18) c)), (5, .int (x (k + 20) c)), (6, .int (byV (x (k + 16) c) (x (k + 18) c) (x (k + 20) c) i)), (7, .int (nI (i + 1)))]) hl [6, 7, 8, 9, 10, 0] rfl) (by rw [show (byV (x (k + 16) c) (x (k + 18) c) (x (k + 20) c) (i + 1) : Int32) = byV (x (k + 16) c) (x (k + 18) c) (x (k + 20) c) i from by simp [byV, byB, e3, e4, e20]]))
          · rw [e20] at hl
            refine lv_iload hx hb dX0_mergedSetByValues_65 (lv_at hl 0 rfl) ?_
            refine r_ifneB (b := true) (tgt := 84) hx hb dX0_mergedSetByValues_67 (by decide) (fun _ => ?_) (fun h => absurd h (by decide))
            refine lv_iconst (v := nI 0) hx hb dX0_mergedSetByValues_84 (by decide) ?_
            refine lv_istore (lv' := [(11, .int (nI 0)), (10, .int (bI true)), (9, .int (bI false)), (8, .int (bI false)), (0, .ref (ad 1)), (3, .int (x (k + 16) c)), (4, .int (x (k + 18) c)), (5, .int (x (k + 20) c)), (6, .int (byV (x (k + 16) c) (x (k + 18) c) (x (k + 20) c) i)), (7, .int (nI i))]) hx hb dX0_mergedSetByValues_85 hl (by decide) rfl (fun ls hl => ?_)
            refine lv_iload hx hb dX0_mergedSetByValues_87 (lv_at hl 1 rfl) ?_
            refine r_ifeqB (b := true) (tgt := 106) hx hb dX0_mergedSetByValues_89 (by decide) (fun h => absurd h (by decide)) (fun _ => ?_)
            refine lv_iload hx hb dX0_mergedSetByValues_92 (lv_at hl 3 rfl) ?_
            refine r_ifeqB (b := false) (tgt := 102) hx hb dX0_mergedSetByValues_94 (by decide) (fun _ => ?_) (fun h => absurd h (by decide))
            refine lv_iconst (v := nI 1) hx hb dX0_mergedSetByValues_102 (by decide) ?_
            refine lv_goto (tgt := 107) hx hb dX0_mergedSetByValues_103 (by decide) ?_
            refine lv_istore (lv' := [(12, .int (nI 1)), (11, .int (nI 0)), (10, .int (bI true)), (9, .int (bI false)), (8, .int (bI false)), (0, .ref (ad 1)), (3, .int (x (k + 16) c)), (4, .int (x (k + 18) c)), (5, .int (x (k + 20) c)), (6, .int (byV (x (k + 16) c) (x (k + 18) c) (x (k + 20) c) i)), (7, .int (nI i))]) hx hb dX0_mergedSetByValues_107 hl (by decide) rfl (fun ls hl => ?_)
            refine lv_iload hx hb dX0_mergedSetByValues_109 (lv_at hl 1 rfl) ?_
            refine r_ifneN (a := 0) (tgt := 124) hx hb (by omega) dX0_mergedSetByValues_111 (by decide) (fun h => absurd h (by omega)) (fun _ => ?_)
            refine lv_iload hx hb dX0_mergedSetByValues_114 (lv_at hl 2 rfl) ?_
            refine r_ifeqB (b := true) (tgt := 133) hx hb dX0_mergedSetByValues_116 (by decide) (fun h => absurd h (by decide)) (fun _ => ?_)
            refine lv_iload hx hb dX0_mergedSetByValues_119 (lv_at hl 0 rfl) ?_
            refine r_ifneN (a := 1) (tgt := 133) hx hb (by omega) dX0_mergedSetByValues_121 (by decide) (fun _ => ?_) (fun h => absurd h (by omega))
            refine r_iincN (k := 10) (a := i) (d := 1) (r := i + 1) (lv' := [(7, .int (nI (i + 1))), (12, .int (nI 1)), (11, .int (nI 0)), (10, .int (bI true)), (9, .int (bI false)), (8, .int (bI false)), (0, .ref (ad 1)), (3, .int (x (k + 16) c)), (4, .int (x (k + 18) c)), (5, .int (x (k + 20) c)), (6, .int (byV (x (k + 16) c) (x (k + 18) c) (x (k + 20) c) i))]) hx hb dX0_mergedSetByValues_133 hl rfl (by omega) (by decide) rfl (fun ls hl => ?_)
            refine lv_goto (tgt := 32) hx hb dX0_mergedSetByValues_136 (by decide) ?_
            exact ih32 _ (lv_cast (lv_sub (l' := [(0, .ref (ad 1)), (3, .int (x (k + 16) c)), (4, .int (x (k + 18) c)), (5, .int (x (k + 20) c)), (6, .int (byV (x (k + 16) c) (x (k + 18) c) (x (k + 20) c) i)), (7, .int (nI (i + 1)))]) hl [6, 7, 8, 9, 10, 0] rfl) (by rw [show (byV (x (k + 16) c) (x (k + 18) c) (x (k + 20) c) (i + 1) : Int32) = byV (x (k + 16) c) (x (k + 18) c) (x (k + 20) c) i from by simp [byV, byB, e3, e4, e20]]))
      · rw [e3] at hl
        rcases Bool.eq_false_or_eq_true (hasB (x (k + 16) c) i) with e33 | e33
        · rw [e33] at hl
          rcases Bool.eq_false_or_eq_true (hasB (x (k + 18) c) i) with e34 | e34
          · rw [e34] at hl
            refine lv_iload hx hb dX0_mergedSetByValues_65 (lv_at hl 0 rfl) ?_
            refine r_ifneB (b := false) (tgt := 84) hx hb dX0_mergedSetByValues_67 (by decide) (fun h => absurd h (by decide)) (fun _ => ?_)
            refine lv_iload hx hb dX0_mergedSetByValues_70 (lv_at hl 2 rfl) ?_
            refine r_ifneB (b := true) (tgt := 80) hx hb dX0_mergedSetByValues_72 (by decide) (fun _ => ?_) (fun h => absurd h (by decide))
            refine lv_iconst (v := nI 1) hx hb dX0_mergedSetByValues_80 (by decide) ?_
            refine lv_goto (tgt := 85) hx hb dX0_mergedSetByValues_81 (by decide) ?_
            refine lv_istore (lv' := [(11, .int (nI 1)), (10, .int (bI false)), (9, .int (bI true)), (8, .int (bI true)), (0, .ref (ad 1)), (3, .int (x (k + 16) c)), (4, .int (x (k + 18) c)), (5, .int (x (k + 20) c)), (6, .int (byV (x (k + 16) c) (x (k + 18) c) (x (k + 20) c) i)), (7, .int (nI i))]) hx hb dX0_mergedSetByValues_85 hl (by decide) rfl (fun ls hl => ?_)
            refine lv_iload hx hb dX0_mergedSetByValues_87 (lv_at hl 1 rfl) ?_
            refine r_ifeqB (b := false) (tgt := 106) hx hb dX0_mergedSetByValues_89 (by decide) (fun _ => ?_) (fun h => absurd h (by decide))
            refine lv_iconst (v := nI 0) hx hb dX0_mergedSetByValues_106 (by decide) ?_
            refine lv_istore (lv' := [(12, .int (nI 0)), (11, .int (nI 1)), (10, .int (bI false)), (9, .int (bI true)), (8, .int (bI true)), (0, .ref (ad 1)), (3, .int (x (k + 16) c)), (4, .int (x (k + 18) c)), (5, .int (x (k + 20) c)), (6, .int (byV (x (k + 16) c) (x (k + 18) c) (x (k + 20) c) i)), (7, .int (nI i))]) hx hb dX0_mergedSetByValues_107 hl (by decide) rfl (fun ls hl => ?_)
            refine lv_iload hx hb dX0_mergedSetByValues_109 (lv_at hl 1 rfl) ?_
            refine r_ifneN (a := 1) (tgt := 124) hx hb (by omega) dX0_mergedSetByValues_111 (by decide) (fun _ => ?_) (fun h => absurd h (by omega))
            refine lv_iload hx hb dX0_mergedSetByValues_124 (lv_at hl 9 rfl) ?_
            refine lv_iconst (v := nI 1) hx hb dX0_mergedSetByValues_126 (by decide) ?_
            refine lv_iload hx hb dX0_mergedSetByValues_127 (lv_at hl 10 rfl) ?_
            refine r_bit hx hb dX0_mergedSetByValues_129 ?_
            refine lv_ior hx hb dX0_mergedSetByValues_130 ?_
            refine lv_istore (lv' := [(6, .int ((byV (x (k + 16) c) (x (k + 18) c) (x (k + 20) c) i) ||| (bit i))), (12, .int (nI 0)), (11, .int (nI 1)), (10, .int (bI false)), (9, .int (bI true)), (8, .int (bI true)), (0, .ref (ad 1)), (3, .int (x (k + 16) c)), (4, .int (x (k + 18) c)), (5, .int (x (k + 20) c)), (7, .int (nI i))]) hx hb dX0_mergedSetByValues_131 hl (by decide) rfl (fun ls hl => ?_)
            refine r_iincN (k := 10) (a := i) (d := 1) (r := i + 1) (lv' := [(7, .int (nI (i + 1))), (6, .int ((byV (x (k + 16) c) (x (k + 18) c) (x (k + 20) c) i) ||| (bit i))), (12, .int (nI 0)), (11, .int (nI 1)), (10, .int (bI false)), (9, .int (bI true)), (8, .int (bI true)), (0, .ref (ad 1)), (3, .int (x (k + 16) c)), (4, .int (x (k + 18) c)), (5, .int (x (k + 20) c))]) hx hb dX0_mergedSetByValues_133 hl rfl (by omega) (by decide) rfl (fun ls hl => ?_)
            refine lv_goto (tgt := 32) hx hb dX0_mergedSetByValues_136 (by decide) ?_
            exact ih32 _ (lv_cast (lv_sub (l' := [(0, .ref (ad 1)), (3, .int (x (k + 16) c)), (4, .int (x (k + 18) c)), (5, .int (x (k + 20) c)), (6, .int ((byV (x (k + 16) c) (x (k + 18) c) (x (k + 20) c) i) ||| (bit i))), (7, .int (nI (i + 1)))]) hl [7, 8, 9, 10, 1, 0] rfl) (by rw [show (byV (x (k + 16) c) (x (k + 18) c) (x (k + 20) c) (i + 1) : Int32) = (byV (x (k + 16) c) (x (k + 18) c) (x (k + 20) c) i) ||| (bit i) from by simp [byV, byB, e3, e33, e34]]))
          · rw [e34] at hl
            refine lv_iload hx hb dX0_mergedSetByValues_65 (lv_at hl 0 rfl) ?_
            refine r_ifneB (b := false) (tgt := 84) hx hb dX0_mergedSetByValues_67 (by decide) (fun h => absurd h (by decide)) (fun _ => ?_)
            refine lv_iload hx hb dX0_mergedSetByValues_70 (lv_at hl 2 rfl) ?_
            refine r_ifneB (b := true) (tgt := 80) hx hb dX0_mergedSetByValues_72 (by decide) (fun _ => ?_) (fun h => absurd h (by decide))
            refine lv_iconst (v := nI 1) hx hb dX0_mergedSetByValues_80 (by decide) ?_
            refine lv_goto (tgt := 85) hx hb dX0_mergedSetByValues_81 (by decide) ?_
            refine lv_istore (lv' := [(11, .int (nI 1)), (10, .int (bI false)), (9, .int (bI false)), (8, .int (bI true)), (0, .ref (ad 1)), (3, .int (x (k + 16) c)), (4, .int (x (k + 18) c)), (5, .int (x (k + 20) c)), (6, .int (byV (x (k + 16) c) (x (k + 18) c) (x (k + 20) c) i)), (7, .int (nI i))]) hx hb dX0_mergedSetByValues_85 hl (by decide) rfl (fun ls hl => ?_)
            refine lv_iload hx hb dX0_mergedSetByValues_87 (lv_at hl 1 rfl) ?_
            refine r_ifeqB (b := false) (tgt := 106) hx hb dX0_mergedSetByValues_89 (by decide) (fun _ => ?_) (fun h => absurd h (by decide))
            refine lv_iconst (v := nI 0) hx hb dX0_mergedSetByValues_106 (by decide) ?_
            refine lv_istore (lv' := [(12, .int (nI 0)), (11, .int (nI 1)), (10, .int (bI false)), (9, .int (bI false)), (8, .int (bI true)), (0, .ref (ad 1)), (3, .int (x (k + 16) c)), (4, .int (x (k + 18) c)), (5, .int (x (k + 20) c)), (6, .int (byV (x (k + 16) c) (x (k + 18) c) (x (k + 20) c) i)), (7, .int (nI i))]) hx hb dX0_mergedSetByValues_107 hl (by decide) rfl (fun ls hl => ?_)
            refine lv_iload hx hb dX0_mergedSetByValues_109 (lv_at hl 1 rfl) ?_
            refine r_ifneN (a := 1) (tgt := 124) hx hb (by omega) dX0_mergedSetByValues_111 (by decide) (fun _ => ?_) (fun h => absurd h (by omega))
            refine lv_iload hx hb dX0_mergedSetByValues_124 (lv_at hl 9 rfl) ?_
            refine lv_iconst (v := nI 1) hx hb dX0_mergedSetByValues_126 (by decide) ?_
            refine lv_iload hx hb dX0_mergedSetByValues_127 (lv_at hl 10 rfl) ?_
            refine r_bit hx hb dX0_mergedSetByValues_129 ?_
            refine lv_ior hx hb dX0_mergedSetByValues_130 ?_
            refine lv_istore (lv' := [(6, .int ((byV (x (k + 16) c) (x (k + 18) c) (x (k + 20) c) i) ||| (bit i))), (12, .int (nI 0)), (11, .int (nI 1)), (10, .int (bI false)), (9, .int (bI false)), (8, .int (bI true)), (0, .ref (ad 1)), (3, .int (x (k + 16) c)), (4, .int (x (k + 18) c)), (5, .int (x (k + 20) c)), (7, .int (nI i))]) hx hb dX0_mergedSetByValues_131 hl (by decide) rfl (fun ls hl => ?_)
            refine r_iincN (k := 10) (a := i) (d := 1) (r := i + 1) (lv' := [(7, .int (nI (i + 1))), (6, .int ((byV (x (k + 16) c) (x (k + 18) c) (x (k + 20) c) i) ||| (bit i))), (12, .int (nI 0)), (11, .int (nI 1)), (10, .int (bI false)), (9, .int (bI false)), (8, .int (bI true)), (0, .ref (ad 1)), (3, .int (x (k + 16) c)), (4, .int (x (k + 18) c)), (5, .int (x (k + 20) c))]) hx hb dX0_mergedSetByValues_133 hl rfl (by omega) (by decide) rfl (fun ls hl => ?_)
            refine lv_goto (tgt := 32) hx hb dX0_mergedSetByValues_136 (by decide) ?_
            exact ih32 _ (lv_cast (lv_sub (l' := [(0, .ref (ad 1)), (3, .int (x (k + 16) c)), (4, .int (x (k + 18) c)), (5, .int (x (k + 20) c)), (6, .int ((byV (x (k + 16) c) (x (k + 18) c) (x (k + 20) c) i) ||| (bit i))), (7, .int (nI (i + 1)))]) hl [7, 8, 9, 10, 1, 0] rfl) (by rw [show (byV (x (k + 16) c) (x (k + 18) c) (x (k + 20) c) (i + 1) : Int32) = (byV (x (k + 16) c) (x (k + 18) c) (x (k + 20) c) i) ||| (bit i) from by simp [byV, byB, e3, e33, e34]]))
        · rw [e33] at hl
          rcases Bool.eq_false_or_eq_true (hasB (x (k + 18) c) i) with e43 | e43
          · rw [e43] at hl
            refine lv_iload hx hb dX0_mergedSetByValues_65 (lv_at hl 0 rfl) ?_
            refine r_ifneB (b := false) (tgt := 84) hx hb dX0_mergedSetByValues_67 (by decide) (fun h => absurd h (by decide)) (fun _ => ?_)
            refine lv_iload hx hb dX0_mergedSetByValues_70 (lv_at hl 2 rfl) ?_
            refine r_ifneB (b := false) (tgt := 80) hx hb dX0_mergedSetByValues_72 (by decide) (fun h => absurd h (by decide)) (fun _ => ?_)
            refine lv_iload hx hb dX0_mergedSetByValues_75 (lv_at hl 1 rfl) ?_
            refine r_ifeqB (b := true) (tgt := 84) hx hb dX0_mergedSetByValues_77 (by decide) (fun h => absurd h (by decide)) (fun _ => ?_)
            refine lv_iconst (v := nI 1) hx hb dX0_mergedSetByValues_80 (by decide) ?_
            refine lv_goto (tgt := 85) hx hb dX0_mergedSetByValues_81 (by decide) ?_
            refine lv_istore (lv' := [(11, .int (nI 1)), (10, .int (bI false)), (9, .int (bI true)), (8, .int (bI false)), (0, .ref (ad 1)), (3, .int (x (k + 16) c)), (4, .int (x (k + 18) c)), (5, .int (x (k + 20) c)), (6, .int (byV (x (k + 16) c) (x (k + 18) c) (x (k + 20) c) i)), (7, .int (nI i))]) hx hb dX0_mergedSetByValues_85 hl (by decide) rfl (fun ls hl => ?_)
            refine lv_iload hx hb dX0_mergedSetByValues_87 (lv_at hl 1 rfl) ?_
            refine r_ifeqB (b := false) (tgt := 106) hx hb dX0_mergedSetByValues_89 (by decide) (fun _ => ?_) (fun h => absurd h (by decide))
            refine lv_iconst (v := nI 0) hx hb dX0_mergedSetByValues_106 (by decide) ?_
            refine lv_istore (lv' := [(12, .int (nI 0)), (11, .int (nI 1)), (10, .int (bI false)), (9, .int (bI true)), (8, .int (bI false)), (0, .ref (ad 1)), (3, .int (x (k + 16) c)), (4, .int (x (k + 18) c)), (5, .int (x (k + 20) c)), (6, .int (byV (x (k + 16) c) (x (k + 18) c) (x (k + 20) c) i)), (7, .int (nI i))]) hx hb dX0_mergedSetByValues_107 hl (by decide) rfl (fun ls hl => ?_)
            refine lv_iload hx hb dX0_mergedSetByValues_109 (lv_at hl 1 rfl) ?_
            refine r_ifneN (a := 1) (tgt := 124) hx hb (by omega) dX0_mergedSetByValues_111 (by decide) (fun _ => ?_) (fun h => absurd h (by omega))
            refine lv_iload hx hb dX0_mergedSetByValues_124 (lv_at hl 9 rfl) ?_
            refine lv_iconst (v := nI 1) hx hb dX0_mergedSetByValues_126 (by decide) ?_
            refine lv_iload hx hb dX0_mergedSetByValues_127 (lv_at hl 10 rfl) ?_
            refine r_bit hx hb dX0_mergedSetByValues_129 ?_
            refine lv_ior hx hb dX0_mergedSetByValues_130 ?_
            refine lv_istore (lv' := [(6, .int ((byV (x (k + 16) c) (x (k + 18) c) (x (k + 20) c) i) ||| (bit i))), (12, .int (nI 0)), (11, .int (nI 1)), (10, .int (bI false)), (9, .int (bI true)), (8, .int (bI false)), (0, .ref (ad 1)), (3, .int (x (k + 16) c)), (4, .int (x (k + 18) c)), (5, .int (x (k + 20) c)), (7, .int (nI i))]) hx hb dX0_mergedSetByValues_131 hl (by decide) rfl (fun ls hl => ?_)
            refine r_iincN (k := 10) (a := i) (d := 1) (r := i + 1) (lv' := [(7, .int (nI (i + 1))), (6, .int ((byV (x (k + 16) c) (x (k + 18) c) (x (k + 20) c) i) ||| (bit i))), (12, .int (nI 0)), (11, .int (nI 1)), (10, .int (bI false)), (9, .int (bI true)), (8, .int (bI false)), (0, .ref (ad 1)), (3, .int (x (k + 16) c)), (4, .int (x (k + 18) c)), (5, .int (x (k + 20) c))]) hx hb dX0_mergedSetByValues_133 hl rfl (by omega) (by decide) rfl (fun ls hl => ?_)
            refine lv_goto (tgt := 32) hx hb dX0_mergedSetByValues_136 (by decide) ?_
            exact ih32 _ (lv_cast (lv_sub (l' := [(0, .ref (ad 1)), (3, .int (x (k + 16) c)), (4, .int (x (k + 18) c)), (5, .int (x (k + 20) c)), (6, .int ((byV (x (k + 16) c) (x (k + 18) c) (x (k + 20) c) i) ||| (bit i))), (7, .int (nI (i + 1)))]) hl [7, 8, 9, 10, 1, 0] rfl) (by rw [show (byV (x (k + 16) c) (x (k + 18) c) (x (k + 20) c) (i + 1) : Int32) = (byV (x (k + 16) c) (x (k + 18) c) (x (k + 20) c) i) ||| (bit i) from by simp [byV, byB, e3, e33, e43]]))
          · rw [e43] at hl
            refine lv_iload hx hb dX0_mergedSetByValues_65 (lv_at hl 0 rfl) ?_
            refine r_ifneB (b := false) (tgt := 84) hx hb dX0_mergedSetByValues_67 (by decide) (fun h => absurd h (by decide)) (fun _ => ?_)
            refine lv_iload hx hb dX0_mergedSetByValues_70 (lv_at hl 2 rfl) ?_
            refine r_ifneB (b := false) (tgt := 80) hx hb dX0_mergedSetByValues_72 (by decide) (fun h => absurd h (by decide)) (fun _ => ?_)
            refine lv_iload hx hb dX0_mergedSetByValues_75 (lv_at hl 1 rfl) ?_
            refine r_ifeqB (b := false) (tgt := 84) hx hb dX0_mergedSetByValues_77 (by decide) (fun _ => ?_) (fun h => absurd h (by decide))
            refine lv_iconst (v := nI 0) hx hb dX0_mergedSetByValues_84 (by decide) ?_
            refine lv_istore (lv' := [(11, .int (nI 0)), (10, .int (bI false)), (9, .int (bI false)), (8, .int (bI false)), (0, .ref (ad 1)), (3, .int (x (k + 16) c)), (4, .int (x (k + 18) c)), (5, .int (x (k + 20) c)), (6, .int (byV (x (k + 16) c) (x (k + 18) c) (x (k + 20) c) i)), (7, .int (nI i))]) hx hb dX0_mergedSetByValues_85 hl (by decide) rfl (fun ls hl => ?_)
            refine lv_iload hx hb dX0_mergedSetByValues_87 (lv_at hl 1 rfl) ?_
            refine r_ifeqB (b := false) (tgt := 106) hx hb dX0_mergedSetByValues_89 (by decide) (fun _ => ?_) (fun h => absurd h (by decide))
            refine lv_iconst (v := nI 0) hx hb dX0_mergedSetByValues_106 (by decide) ?_
            refine lv_istore (lv' := [(12, .int (nI 0)), (11, .int (nI 0)), (10, .int (bI false)), (9, .int (bI false)), (8, .int (bI false)), (0, .ref (ad 1)), (3, .int (x (k + 16) c)), (4, .int (x (k + 18) c)), (5, .int (x (k + 20) c)), (6, .int (byV (x (k + 16) c) (x (k + 18) c) (x (k + 20) c) i)), (7, .int (nI i))]) hx hb dX0_mergedSetByValues_107 hl (by decide) rfl (fun ls hl => ?_)
            refine lv_iload hx hb dX0_mergedSetByValues_109 (lv_at hl 1 rfl) ?_
            refine r_ifneN (a := 0) (tgt := 124) hx hb (by omega) dX0_mergedSetByValues_111 (by decide) (fun h => absurd h (by omega)) (fun _ => ?_)
            refine lv_iload hx hb dX0_mergedSetByValues_114 (lv_at hl 2 rfl) ?_
            refine r_ifeqB (b := false) (tgt := 133) hx hb dX0_mergedSetByValues_116 (by decide) (fun _ => ?_) (fun h => absurd h (by decide))
            refine r_iincN (k := 10) (a := i) (d := 1) (r := i + 1) (lv' := [(7, .int (nI (i + 1))), (12, .int (nI 0)), (11, .int (nI 0)), (10, .int (bI false)), (9, .int (bI false)), (8, .int (bI false)), (0, .ref (ad 1)), (3, .int (x (k + 16) c)), (4, .int (x (k + 18) c)), (5, .int (x (k + 20) c)), (6, .int (byV (x (k + 16) c) (x (k + 18) c) (x (k + 20) c) i))]) hx hb dX0_mergedSetByValues_133 hl rfl (by omega) (by decide) rfl (fun ls hl => ?_)
            refine lv_goto (tgt := 32) hx hb dX0_mergedSetByValues_136 (by decide) ?_
            exact ih32 _ (lv_cast (lv_sub (l' := [(0, .ref (ad 1)), (3, .int (x (k + 16) c)), (4, .int (x (k + 18) c)), (5, .int (x (k + 20) c)), (6, .int (byV (x (k + 16) c) (x (k + 18) c) (x (k + 20) c) i)), (7, .int (nI (i + 1)))]) hl [6, 7, 8, 9, 10, 0] rfl) (by rw [show (byV (x (k + 16) c) (x (k + 18) c) (x (k + 20) c) (i + 1) : Int32) = byV (x (k + 16) c) (x (k + 18) c) (x (k + 20) c) i from by simp [byV, byB, e3, e33, e43]]))
  exact hL32 0 (Nat.zero_le _) _ (lv_cast (lv_sub (l' := [(0, .ref (ad 1)), (3, .int (x (k + 16) c)), (4, .int (x (k + 18) c)), (5, .int (x (k + 20) c)), (6, .int (nI 0)), (7, .int (nI 0))]) hl [5, 4, 3, 2, 1, 0] rfl) (by rw [show (byV (x (k + 16) c) (x (k + 18) c) (x (k + 20) c) 0 : Int32) = nI 0 from rfl]))
set_option maxHeartbeats 4000000 in
set_option maxRecDepth 100000 in
theorem c_X0_mergeVersions (l : Launch) (D : va_G) (cI : ClassId) (cA : ClassId) (ad : Nat → Nat) (n : Nat) (x : Nat → Nat → Int32) (c : Nat) (hc : c < 24) : Met l yX0_mergeVersions wsX0_mergeVersions ({ frames := 2, cells := 0, slots := 0, locals := 48 }) (va_Pc [.ref (ad 1), .int (nI c)] (cX D cI cA ad n x)) (qW D ad (cF cI cA ad n (mergeV x c)) 46 none) 0 0 (wA ad 46) := by
  refine c_ofV (cc := cX0_mergeVersions) (maxL := 6) (by decide) rfl (Nat.le_of_ble_eq_true rfl) ?_
  intro p e s m av below meth cd Q hx hb hF hP hK hD hT hret ls hl
  have hown : s.vm.findClass RX0 = some m.cls := hF.2.2.2.1
  have hF : CallFix p m cd cX0_mergeVersions 6 s av wsX0_mergeVersions RX0 := hF
  have hts := hF.2.2.2.2
  have hl : lv_has ls 6 [(0, .ref (ad 1)), (1, .int (nI c))] := hl
  obtain ⟨H, eH⟩ : ∃ H9 : Heap, H9 = s.heap := ⟨_, rfl⟩
  obtain ⟨locs, eL⟩ : ∃ L9 : List Loc, L9 = [] := ⟨_, rfl⟩
  have hS : sS (wA ad 46) s.heap H locs := by rw [eH, eL]; exact sS.rf
  rw [← eH] at hP
  suffices hgo : W p l e ({ frames := 2, cells := 0, slots := 0, locals := 48 }) s m av below meth cd H locs 0 0 Q (F0 m 0 ls []) by rw [eH, eL] at hgo; exact hgo
  clear eH eL
  refine lv_aload_n hx hb dX0_mergeVersions_0 rfl (lv_at hl 0 rfl) ?_
  refine lv_iload_n hx hb dX0_mergeVersions_1 rfl (lv_at hl 1 rfl) ?_
  refine k_Ri (va_runV (As := [.int (nI c)]) (rest := []) hF (c_X0_mergedName l D cI cA ad n x c hc) (cwV 1 hts gX0_mergeVersions_X0_mergedName rfl rfl rfl (by decide +kernel) ⟨(Nat.le_of_ble_eq_true rfl), (Nat.le_of_ble_eq_true rfl)⟩) (k_pre hP hK hD hT (k := 1) (by decide) cF_1 rfl) rfl rfl hl.1 rfl (lv_room (Nat.le_of_ble_eq_true rfl)) dX0_mergeVersions_2 ⟨Nat.zero_le _, Nat.zero_le _⟩) ?_
  refine lv_istore_n (lv' := [(2, .int (cNm x c)), (0, .ref (ad 1)), (1, .int (nI c))]) hx hb dX0_mergeVersions_5 rfl hl (by decide) rfl (fun ls hl => ?_)
  refine lv_aload_n hx hb dX0_mergeVersions_6 rfl (lv_at hl 1 rfl) ?_
  refine lv_iload_n hx hb dX0_mergeVersions_7 rfl (lv_at hl 2 rfl) ?_
  refine lv_iconst (v := nI 0) hx hb dX0_mergeVersions_8 (by decide) ?_
  refine k_Ri (va_runV (As := [.int (nI c), .int (nI 0)]) (rest := []) hF (c_X0_mergedSet l D cI cA ad n x c 0 hc (by omega)) (cwV 2 hts gX0_mergeVersions_X0_mergedSet rfl rfl rfl (by decide +kernel) ⟨(Nat.le_of_ble_eq_true rfl), (Nat.le_of_ble_eq_true rfl)⟩) (k_pre hP hK hD hT (k := 1) (by decide) cF_1 rfl) rfl rfl hl.1 rfl (lv_room (Nat.le_of_ble_eq_true rfl)) dX0_mergeVersions_9 ⟨Nat.zero_le _, Nat.zero_le _⟩) ?_
  refine lv_istore_n (lv' := [(3, .int (cSt x c 0)), (2, .int (cNm x c)), (0, .ref (ad 1)), (1, .int (nI c))]) hx hb dX0_mergeVersions_12 rfl hl (by decide) rfl (fun ls hl => ?_)
  refine lv_aload_n hx hb dX0_mergeVersions_13 rfl (lv_at hl 2 rfl) ?_
  refine lv_iload_n hx hb dX0_mergeVersions_14 rfl (lv_at hl 3 rfl) ?_
  refine lv_iconst (v := nI 1) hx hb dX0_mergeVersions_15 (by decide) ?_
  refine k_Ri (va_runV (As := [.int (nI c), .int (nI 1)]) (rest := []) hF (c_X0_mergedSet l D cI cA ad n x c 1 hc (by omega)) (cwV 2 hts gX0_mergeVersions_X0_mergedSet rfl rfl rfl (by decide +kernel) ⟨(Nat.le_of_ble_eq_true rfl), (Nat.le_of_ble_eq_true rfl)⟩) (k_pre hP hK hD hT (k := 1) (by decide) cF_1 rfl) rfl rfl hl.1 rfl (lv_room (Nat.le_of_ble_eq_true rfl)) dX0_mergeVersions_16 ⟨Nat.zero_le _, Nat.zero_le _⟩) ?_
  refine lv_istore (lv' := [(4, .int (cSt x c 1)), (3, .int (cSt x c 0)), (2, .int (cNm x c)), (0, .ref (ad 1)), (1, .int (nI c))]) hx hb dX0_mergeVersions_19 hl (by decide) rfl (fun ls hl => ?_)
  refine lv_iconst (v := nI 0) hx hb dX0_mergeVersions_21 (by decide) ?_
  refine lv_istore (lv' := [(5, .int (nI 0)), (4, .int (cSt x c 1)), (3, .int (cSt x c 0)), (2, .int (cNm x c)), (0, .ref (ad 1)), (1, .int (nI c))]) hx hb dX0_mergeVersions_22 hl (by decide) rfl (fun ls hl => ?_)
  refine lv_iload hx hb dX0_mergeVersions_24 (lv_at hl 0 rfl) ?_
  refine lv_iconst (v := nI 3) hx hb dX0_mergeVersions_26 (by decide) ?_
  refine r_cgeN (a := 0) (b := 3) (tgt := 63) hx hb (by omega) (by omega) dX0_mergeVersions_27 (by decide) (fun h => absurd h (by omega)) (fun _ => ?_)
  refine lv_aload_n hx hb dX0_mergeVersions_30 rfl (lv_at hl 4 rfl) ?_
  refine lv_iload_n hx hb dX0_mergeVersions_31 rfl (lv_at hl 5 rfl) ?_
  refine lv_iload hx hb dX0_mergeVersions_32 (lv_at hl 0 rfl) ?_
  refine lv_iload_n hx hb dX0_mergeVersions_34 rfl (lv_at hl 3 rfl) ?_
  refine k_Wv (va_runV (As := [.int (nI c), .int (nI 0), .int (cNm x c)]) (rest := []) hF (c_X0_putName l D cI cA ad n x c 0 (cNm x c) hc (by omega)) (cwV 3 hts gX0_mergeVersions_X0_putName rfl rfl rfl (by decide +kernel) ⟨(Nat.le_of_ble_eq_true rfl), (Nat.le_of_ble_eq_true rfl)⟩) (k_pre hP hK hD hT (k := 1) (by decide) cF_1 rfl) rfl rfl hl.1 rfl (lv_room (Nat.le_of_ble_eq_true rfl)) dX0_mergeVersions_35 ⟨Nat.zero_le _, Nat.zero_le _⟩) hD hS (fun H locs hP hS => ?_)
  refine lv_aload_n hx hb dX0_mergeVersions_38 rfl (lv_at hl 4 rfl) ?_
  refine lv_iload_n hx hb dX0_mergeVersions_39 rfl (lv_at hl 5 rfl) ?_
  refine lv_iload hx hb dX0_mergeVersions_40 (lv_at hl 0 rfl) ?_
  refine lv_iconst (v := nI 0) hx hb dX0_mergeVersions_42 (by decide) ?_
  refine lv_iload_n hx hb dX0_mergeVersions_43 rfl (lv_at hl 2 rfl) ?_
  refine k_Wv (va_runV (As := [.int (nI c), .int (nI 0), .int (nI 0), .int (cSt x c 0)]) (rest := []) hF (c_X0_putSet l D cI cA ad n (putN x c 0 (cNm x c)) c 0 0 (cSt x c 0) hc (by omega) (by omega)) (cwV 4 hts gX0_mergeVersions_X0_putSet rfl rfl rfl (by decide +kernel) ⟨(Nat.le_of_ble_eq_true rfl), (Nat.le_of_ble_eq_true rfl)⟩) (k_pre hP hK hD hT (k := 1) (by decide) cF_1 rfl) rfl rfl hl.1 rfl (lv_room (Nat.le_of_ble_eq_true rfl)) dX0_mergeVersions_44 ⟨Nat.zero_le _, Nat.zero_le _⟩) hD hS (fun H locs hP hS => ?_)
  refine lv_aload_n hx hb dX0_mergeVersions_47 rfl (lv_at hl 4 rfl) ?_
  refine lv_iload_n hx hb dX0_mergeVersions_48 rfl (lv_at hl 5 rfl) ?_
  refine lv_iload hx hb dX0_mergeVersions_49 (lv_at hl 0 rfl) ?_
  refine lv_iconst (v := nI 1) hx hb dX0_mergeVersions_51 (by decide) ?_
  refine lv_iload hx hb dX0_mergeVersions_52 (lv_at hl 1 rfl) ?_
  refine k_Wv (va_runV (As := [.int (nI c), .int (nI 0), .int (nI 1), .int (cSt x c 1)]) (rest := []) hF (c_X0_putSet l D cI cA ad n (putS (putN x c 0 (cNm x c)) c 0 0 (cSt x c 0)) c 0 1 (cSt x c 1) hc (by omega) (by omega)) (cwV 4 hts gX0_mergeVersions_X0_putSet rfl rfl rfl (by decide +kernel) ⟨(Nat.le_of_ble_eq_true rfl), (Nat.le_of_ble_eq_true rfl)⟩) (k_pre hP hK hD hT (k := 1) (by decide) cF_1 rfl) rfl rfl hl.1 rfl (lv_room (Nat.le_of_ble_eq_true rfl)) dX0_mergeVersions_54 ⟨Nat.zero_le _, Nat.zero_le _⟩) hD hS (fun H locs hP hS => ?_)
  refine r_iincN (k := 0) (a := 0) (d := 1) (r := 1) (lv' := [(5, .int (nI 1)), (4, .int (cSt x c 1)), (3, .int (cSt x c 0)), (2, .int (cNm x c)), (0, .ref (ad 1)), (1, .int (nI c))]) hx hb dX0_mergeVersions_57 hl rfl (by omega) (by decide) rfl (fun ls hl => ?_)
  refine lv_goto (tgt := 24) hx hb dX0_mergeVersions_60 (by decide) ?_
  refine lv_iload hx hb dX0_mergeVersions_24 (lv_at hl 0 rfl) ?_
  refine lv_iconst (v := nI 3) hx hb dX0_mergeVersions_26 (by decide) ?_
  refine r_cgeN (a := 1) (b := 3) (tgt := 63) hx hb (by omega) (by omega) dX0_mergeVersions_27 (by decide) (fun h => absurd h (by omega)) (fun _ => ?_)
  refine lv_aload_n hx hb dX0_mergeVersions_30 rfl (lv_at hl 4 rfl) ?_
  refine lv_iload_n hx hb dX0_mergeVersions_31 rfl (lv_at hl 5 rfl) ?_
  refine lv_iload hx hb dX0_mergeVersions_32 (lv_at hl 0 rfl) ?_
  refine lv_iload_n hx hb dX0_mergeVersions_34 rfl (lv_at hl 3 rfl) ?_
  refine k_Wv (va_runV (As := [.int (nI c), .int (nI 1), .int (cNm x c)]) (rest := []) hF (c_X0_putName l D cI cA ad n (putS (putS (putN x c 0 (cNm x c)) c 0 0 (cSt x c 0)) c 0 1 (cSt x c 1)) c 1 (cNm x c) hc (by omega)) (cwV 3 hts gX0_mergeVersions_X0_putName rfl rfl rfl (by decide +kernel) ⟨(Nat.le_of_ble_eq_true rfl), (Nat.le_of_ble_eq_true rfl)⟩) (k_pre hP hK hD hT (k := 1) (by decide) cF_1 rfl) rfl rfl hl.1 rfl (lv_room (Nat.le_of_ble_eq_true rfl)) dX0_mergeVersions_35 ⟨Nat.zero_le _, Nat.zero_le _⟩) hD hS (fun H locs hP hS => ?_)
  refine lv_aload_n hx hb dX0_mergeVersions_38 rfl (lv_at hl 4 rfl) ?_
  refine lv_iload_n hx hb dX0_mergeVersions_39 rfl (lv_at hl 5 rfl) ?_
  refine lv_iload hx hb dX0_mergeVersions_40 (lv_at hl 0 rfl) ?_
  refine lv_iconst (v := nI 0) hx hb dX0_mergeVersions_42 (by decide) ?_
  refine lv_iload_n hx hb dX0_mergeVersions_43 rfl (lv_at hl 2 rfl) ?_
  refine k_Wv (va_runV (As := [.int (nI c), .int (nI 1), .int (nI 0), .int (cSt x c 0)]) (rest := []) hF (c_X0_putSet l D cI cA ad n (putN (putS (putS (putN x c 0 (cNm x c)) c 0 0 (cSt x c 0)) c 0 1 (cSt x c 1)) c 1 (cNm x c)) c 1 0 (cSt x c 0) hc (by omega) (by omega)) (cwV 4 hts gX0_mergeVersions_X0_putSet rfl rfl rfl (by decide +kernel) ⟨(Nat.le_of_ble_eq_true rfl), (Nat.le_of_ble_eq_true rfl)⟩) (k_pre hP hK hD hT (k := 1) (by decide) cF_1 rfl) rfl rfl hl.1 rfl (lv_room (Nat.le_of_ble_eq_true rfl)) dX0_mergeVersions_44 ⟨Nat.zero_le _, Nat.zero_le _⟩) hD hS (fun H locs hP hS => ?_)
  refine lv_aload_n hx hb dX0_mergeVersions_47 rfl (lv_at hl 4 rfl) ?_
  refine lv_iload_n hx hb dX0_mergeVersions_48 rfl (lv_at hl 5 rfl) ?_
  refine lv_iload hx hb dX0_mergeVersions_49 (lv_at hl 0 rfl) ?_
  refine lv_iconst (v := nI 1) hx hb dX0_mergeVersions_51 (by decide) ?_
  refine lv_iload hx hb dX0_mergeVersions_52 (lv_at hl 1 rfl) ?_
  refine k_Wv (va_runV (As := [.int (nI c), .int (nI 1), .int (nI 1), .int (cSt x c 1)]) (rest := []) hF (c_X0_putSet l D cI cA ad n (putS (putN (putS (putS (putN x c 0 (cNm x c)) c 0 0 (cSt x c 0)) c 0 1 (cSt x c 1)) c 1 (cNm x c)) c 1 0 (cSt x c 0)) c 1 1 (cSt x c 1) hc (by omega) (by omega)) (cwV 4 hts gX0_mergeVersions_X0_putSet rfl rfl rfl (by decide +kernel) ⟨(Nat.le_of_ble_eq_true rfl), (Nat.le_of_ble_eq_true rfl)⟩) (k_pre hP hK hD hT (k := 1) (by decide) cF_1 rfl) rfl rfl hl.1 rfl (lv_room (Nat.le_of_ble_eq_true rfl)) dX0_mergeVersions_54 ⟨Nat.zero_le _, Nat.zero_le _⟩) hD hS (fun H locs hP hS => ?_)
  refine r_iincN (k := 0) (a := 1) (d := 1) (r := 2) (lv' := [(5, .int (nI 2)), (4, .int (cSt x c 1)), (3, .int (cSt x c 0)), (2, .int (cNm x c)), (0, .ref (ad 1)), (1, .int (nI c))]) hx hb dX0_mergeVersions_57 hl rfl (by omega) (by decide) rfl (fun ls hl => ?_)
  refine lv_goto (tgt := 24) hx hb dX0_mergeVersions_60 (by decide) ?_
  refine lv_iload hx hb dX0_mergeVersions_24 (lv_at hl 0 rfl) ?_
  refine lv_iconst (v := nI 3) hx hb dX0_mergeVersions_26 (by decide) ?_
  refine r_cgeN (a := 2) (b := 3) (tgt := 63) hx hb (by omega) (by omega) dX0_mergeVersions_27 (by decide) (fun h => absurd h (by omega)) (fun _ => ?_)
  refine lv_aload_n hx hb dX0_mergeVersions_30 rfl (lv_at hl 4 rfl) ?_
  refine lv_iload_n hx hb dX0_mergeVersions_31 rfl (lv_at hl 5 rfl) ?_
  refine lv_iload hx hb dX0_mergeVersions_32 (lv_at hl 0 rfl) ?_
  refine lv_iload_n hx hb dX0_mergeVersions_34 rfl (lv_at hl 3 rfl) ?_
  refine k_Wv (va_runV (As := [.int (nI c), .int (nI 2), .int (cNm x c)]) (rest := []) hF (c_X0_putName l D cI cA ad n (putS (putS (putN (putS (putS (putN x c 0 (cNm x c)) c 0 0 (cSt x c 0)) c 0 1 (cSt x c 1)) c 1 (cNm x c)) c 1 0 (cSt x c 0)) c 1 1 (cSt x c 1)) c 2 (cNm x c) hc (by omega)) (cwV 3 hts gX0_mergeVersions_X0_putName rfl rfl rfl (by decide +kernel) ⟨(Nat.le_of_ble_eq_true rfl), (Nat.le_of_ble_eq_true rfl)⟩) (k_pre hP hK hD hT (k := 1) (by decide) cF_1 rfl) rfl rfl hl.1 rfl (lv_room (Nat.le_of_ble_eq_true rfl)) dX0_mergeVersions_35 ⟨Nat.zero_le _, Nat.zero_le _⟩) hD hS (fun H locs hP hS => ?_)
  refine lv_aload_n hx hb dX0_mergeVersions_38 rfl (lv_at hl 4 rfl) ?_
  refine lv_iload_n hx hb dX0_mergeVersions_39 rfl (lv_at hl 5 rfl) ?_
  refine lv_iload hx hb dX0_mergeVersions_40 (lv_at hl 0 rfl) ?_
  refine lv_iconst (v := nI 0) hx hb dX0_mergeVersions_42 (by decide) ?_
  refine lv_iload_n hx hb dX0_mergeVersions_43 rfl (lv_at hl 2 rfl) ?_
  refine k_Wv (va_runV (As := [.int (nI c), .int (nI 2), .int (nI 0), .int (cSt x c 0)]) (rest := []) hF (c_X0_putSet l D cI cA ad n (putN (putS (putS (putN (putS (putS (putN x c 0 (cNm x c)) c 0 0 (cSt x c 0)) c 0 1 (cSt x c 1)) c 1 (cNm x c)) c 1 0 (cSt x c 0)) c 1 1 (cSt x c 1)) c 2 (cNm x c)) c 2 0 (cSt x c 0) hc (by omega) (by omega)) (cwV 4 hts gX0_mergeVersions_X0_putSet rfl rfl rfl (by decide +kernel) ⟨(Nat.le_of_ble_eq_true rfl), (Nat.le_of_ble_eq_true rfl)⟩) (k_pre hP hK hD hT (k := 1) (by decide) cF_1 rfl) rfl rfl hl.1 rfl (lv_room (Nat.le_of_ble_eq_true rfl)) dX0_mergeVersions_44 ⟨Nat.zero_le _, Nat.zero_le _⟩) hD hS (fun H locs hP hS => ?_)
  refine lv_aload_n hx hb dX0_mergeVersions_47 rfl (lv_at hl 4 rfl) ?_
  refine lv_iload_n hx hb dX0_mergeVersions_48 rfl (lv_at hl 5 rfl) ?_
  refine lv_iload hx hb dX0_mergeVersions_49 (lv_at hl 0 rfl) ?_
  refine lv_iconst (v := nI 1) hx hb dX0_mergeVersions_51 (by decide) ?_
  refine lv_iload hx hb dX0_mergeVersions_52 (lv_at hl 1 rfl) ?_
  refine k_Wv (va_runV (As := [.int (nI c), .int (nI 2), .int (nI 1), .int (cSt x c 1)]) (rest := []) hF (c_X0_putSet l D cI cA ad n (putS (putN (putS (putS (putN (putS (putS (putN x c 0 (cNm x c)) c 0 0 (cSt x c 0)) c 0 1 (cSt x c 1)) c 1 (cNm x c)) c 1 0 (cSt x c 0)) c 1 1 (cSt x c 1)) c 2 (cNm x c)) c 2 0 (cSt x c 0)) c 2 1 (cSt x c 1) hc (by omega) (by omega)) (cwV 4 hts gX0_mergeVersions_X0_putSet rfl rfl rfl (by decide +kernel) ⟨(Nat.le_of_ble_eq_true rfl), (Nat.le_of_ble_eq_true rfl)⟩) (k_pre hP hK hD hT (k := 1) (by decide) cF_1 rfl) rfl rfl hl.1 rfl (lv_room (Nat.le_of_ble_eq_true rfl)) dX0_mergeVersions_54 ⟨Nat.zero_le _, Nat.zero_le _⟩) hD hS (fun H locs hP hS => ?_)
  refine r_iincN (k := 0) (a := 2) (d := 1) (r := 3) (lv' := [(5, .int (nI 3)), (4, .int (cSt x c 1)), (3, .int (cSt x c 0)), (2, .int (cNm x c)), (0, .ref (ad 1)), (1, .int (nI c))]) hx hb dX0_mergeVersions_57 hl rfl (by omega) (by decide) rfl (fun ls hl => ?_)
  refine lv_goto (tgt := 24) hx hb dX0_mergeVersions_60 (by decide) ?_
  refine lv_iload hx hb dX0_mergeVersions_24 (lv_at hl 0 rfl) ?_
  refine lv_iconst (v := nI 3) hx hb dX0_mergeVersions_26 (by decide) ?_
  refine r_cgeN (a := 3) (b := 3) (tgt := 63) hx hb (by omega) (by omega) dX0_mergeVersions_27 (by decide) (fun _ => ?_) (fun h => absurd h (by omega))
  exact hret _ _ _ _ _ hP hS dX0_mergeVersions_63 (rfl)
set_option maxHeartbeats 4000000 in
set_option maxRecDepth 100000 in
theorem c_X0_isSynced (l : Launch) (D : va_G) (cI : ClassId) (cA : ClassId) (ad : Nat → Nat) (n : Nat) (x : Nat → Nat → Int32) (c : Nat) (hc : c < 24) : Met l yX0_isSynced wsX0_isSynced ({ frames := 2, cells := 0, slots := 0, locals := 48 }) (va_Pc [.ref (ad 1), .int (nI c)] (cX D cI cA ad n x)) (qR (some (.int (bI (synB x c))))) 0 0 nF := by
  refine c_ofR (cc := cX0_isSynced) (maxL := 6) (ret := .boolean) (by decide) rfl (nar_bI _) (Nat.le_of_ble_eq_true rfl) ?_
  intro p e s m av below meth cd Q hx hb hF hP hK hD hT hret ls hl
  have hown : s.vm.findClass RX0 = some m.cls := hF.2.2.2.1
  have hF : CallFix p m cd cX0_isSynced 6 s av wsX0_isSynced RX0 := hF
  have hts := hF.2.2.2.2
  have hl : lv_has ls 6 [(0, .ref (ad 1)), (1, .int (nI c))] := hl
  refine lv_aload_n hx hb dX0_isSynced_0 rfl (lv_at hl 0 rfl) ?_
  refine lv_iload_n hx hb dX0_isSynced_1 rfl (lv_at hl 1 rfl) ?_
  refine k_Ri (va_runV (As := [.int (nI c)]) (rest := []) hF (c_X0_mergedName l D cI cA ad n x c hc) (cwV 1 hts gX0_isSynced_X0_mergedName rfl rfl rfl (by decide +kernel) ⟨(Nat.le_of_ble_eq_true rfl), (Nat.le_of_ble_eq_true rfl)⟩) (k_pre hP hK hD hT (k := 1) (by decide) cF_1 rfl) rfl rfl hl.1 rfl (lv_room (Nat.le_of_ble_eq_true rfl)) dX0_isSynced_2 ⟨Nat.zero_le _, Nat.zero_le _⟩) ?_
  refine lv_istore_n (lv' := [(2, .int (cNm x c)), (0, .ref (ad 1)), (1, .int (nI c))]) hx hb dX0_isSynced_5 rfl hl (by decide) rfl (fun ls hl => ?_)
  refine lv_aload_n hx hb dX0_isSynced_6 rfl (lv_at hl 1 rfl) ?_
  refine lv_iload_n hx hb dX0_isSynced_7 rfl (lv_at hl 2 rfl) ?_
  refine lv_iconst (v := nI 0) hx hb dX0_isSynced_8 (by decide) ?_
  refine k_Ri (va_runV (As := [.int (nI c), .int (nI 0)]) (rest := []) hF (c_X0_mergedSet l D cI cA ad n x c 0 hc (by omega)) (cwV 2 hts gX0_isSynced_X0_mergedSet rfl rfl rfl (by decide +kernel) ⟨(Nat.le_of_ble_eq_true rfl), (Nat.le_of_ble_eq_true rfl)⟩) (k_pre hP hK hD hT (k := 1) (by decide) cF_1 rfl) rfl rfl hl.1 rfl (lv_room (Nat.le_of_ble_eq_true rfl)) dX0_isSynced_9 ⟨Nat.zero_le _, Nat.zero_le _⟩) ?_
  refine lv_istore_n (lv' := [(3, .int (cSt x c 0)), (2, .int (cNm x c)), (0, .ref (ad 1)), (1, .int (nI c))]) hx hb dX0_isSynced_12 rfl hl (by decide) rfl (fun ls hl => ?_)
  refine lv_aload_n hx hb dX0_isSynced_13 rfl (lv_at hl 2 rfl) ?_
  refine lv_iload_n hx hb dX0_isSynced_14 rfl (lv_at hl 3 rfl) ?_
  refine lv_iconst (v := nI 1) hx hb dX0_isSynced_15 (by decide) ?_
  refine k_Ri (va_runV (As := [.int (nI c), .int (nI 1)]) (rest := []) hF (c_X0_mergedSet l D cI cA ad n x c 1 hc (by omega)) (cwV 2 hts gX0_isSynced_X0_mergedSet rfl rfl rfl (by decide +kernel) ⟨(Nat.le_of_ble_eq_true rfl), (Nat.le_of_ble_eq_true rfl)⟩) (k_pre hP hK hD hT (k := 1) (by decide) cF_1 rfl) rfl rfl hl.1 rfl (lv_room (Nat.le_of_ble_eq_true rfl)) dX0_isSynced_16 ⟨Nat.zero_le _, Nat.zero_le _⟩) ?_
  refine lv_istore (lv' := [(4, .int (cSt x c 1)), (3, .int (cSt x c 0)), (2, .int (cNm x c)), (0, .ref (ad 1)), (1, .int (nI c))]) hx hb dX0_isSynced_19 hl (by decide) rfl (fun ls hl => ?_)
  refine lv_iconst (v := nI 0) hx hb dX0_isSynced_21 (by decide) ?_
  refine lv_istore (lv' := [(5, .int (nI 0)), (4, .int (cSt x c 1)), (3, .int (cSt x c 0)), (2, .int (cNm x c)), (0, .ref (ad 1)), (1, .int (nI c))]) hx hb dX0_isSynced_22 hl (by decide) rfl (fun ls hl => ?_)
  refine lv_iload hx hb dX0_isSynced_24 (lv_at hl 0 rfl) ?_
  refine lv_iconst (v := nI 3) hx hb dX0_isSynced_26 (by decide) ?_
  refine r_cgeN (a := 0) (b := 3) (tgt := 74) hx hb (by omega) (by omega) dX0_isSynced_27 (by decide) (fun h => absurd h (by omega)) (fun _ => ?_)
  refine lv_aload_n hx hb dX0_isSynced_30 rfl (lv_at hl 4 rfl) ?_
  refine lv_iload_n hx hb dX0_isSynced_31 rfl (lv_at hl 5 rfl) ?_
  refine lv_iload hx hb dX0_isSynced_32 (lv_at hl 0 rfl) ?_
  refine k_Ri (va_runV (As := [.int (nI c), .int (nI 0)]) (rest := []) hF (c_X0_nameIn_0 l D cI cA ad n x c hc) (cwV 2 hts gX0_isSynced_X0_nameIn rfl rfl rfl (by decide +kernel) ⟨(Nat.le_of_ble_eq_true rfl), (Nat.le_of_ble_eq_true rfl)⟩) (k_pre hP hK hD hT (k := 1) (by decide) cF_1 rfl) rfl rfl hl.1 rfl (lv_room (Nat.le_of_ble_eq_true rfl)) dX0_isSynced_34 ⟨Nat.zero_le _, Nat.zero_le _⟩) ?_
  refine lv_iload_n hx hb dX0_isSynced_37 rfl (lv_at hl 3 rfl) ?_
  refine lv_icmp_ne (tgt := 66) hx hb dX0_isSynced_38 (by decide) (fun h38_2 => ?_) (fun h38_2 => ?_)
  · refine lv_iconst (v := nI 0) hx hb dX0_isSynced_66 (by decide) ?_
    exact hret _ _ _ dX0_isSynced_67 (by simp [synB, synV, bI, h38_2])
  · refine lv_aload_n hx hb dX0_isSynced_41 rfl (lv_at hl 4 rfl) ?_
    refine lv_iload_n hx hb dX0_isSynced_42 rfl (lv_at hl 5 rfl) ?_
    refine lv_iload hx hb dX0_isSynced_43 (lv_at hl 0 rfl) ?_
    refine lv_iconst (v := nI 0) hx hb dX0_isSynced_45 (by decide) ?_
    refine k_Ri (va_runV (As := [.int (nI c), .int (nI 0), .int (nI 0)]) (rest := []) hF (c_X0_setOf_0 l D cI cA ad n x c 0 hc (by omega)) (cwV 3 hts gX0_isSynced_X0_setOf rfl rfl rfl (by decide +kernel) ⟨(Nat.le_of_ble_eq_true rfl), (Nat.le_of_ble_eq_true rfl)⟩) (k_pre hP hK hD hT (k := 1) (by decide) cF_1 rfl) rfl rfl hl.1 rfl (lv_room (Nat.le_of_ble_eq_true rfl)) dX0_isSynced_46 ⟨Nat.zero_le _, Nat.zero_le _⟩) ?_
    refine lv_iload_n hx hb dX0_isSynced_49 rfl (lv_at hl 2 rfl) ?_
    refine lv_icmp_ne (tgt := 66) hx hb dX0_isSynced_50 (by decide) (fun h50_3 => ?_) (fun h50_3 => ?_)
    · refine lv_iconst (v := nI 0) hx hb dX0_isSynced_66 (by decide) ?_
      exact hret _ _ _ dX0_isSynced_67 (by simp [synB, synV, bI, h38_2, h50_3])
    · refine lv_aload_n hx hb dX0_isSynced_53 rfl (lv_at hl 4 rfl) ?_
      refine lv_iload_n hx hb dX0_isSynced_54 rfl (lv_at hl 5 rfl) ?_
      refine lv_iload hx hb dX0_isSynced_55 (lv_at hl 0 rfl) ?_
      refine lv_iconst (v := nI 1) hx hb dX0_isSynced_57 (by decide) ?_
      refine k_Ri (va_runV (As := [.int (nI c), .int (nI 0), .int (nI 1)]) (rest := []) hF (c_X0_setOf_0 l D cI cA ad n x c 1 hc (by omega)) (cwV 3 hts gX0_isSynced_X0_setOf rfl rfl rfl (by decide +kernel) ⟨(Nat.le_of_ble_eq_true rfl), (Nat.le_of_ble_eq_true rfl)⟩) (k_pre hP hK hD hT (k := 1) (by decide) cF_1 rfl) rfl rfl hl.1 rfl (lv_room (Nat.le_of_ble_eq_true rfl)) dX0_isSynced_58 ⟨Nat.zero_le _, Nat.zero_le _⟩) ?_
      refine lv_iload hx hb dX0_isSynced_61 (lv_at hl 1 rfl) ?_
      refine lv_icmp_eq (tgt := 68) hx hb dX0_isSynced_63 (by decide) (fun h63_4 => ?_) (fun h63_4 => ?_)
      · refine r_iincN (k := 0) (a := 0) (d := 1) (r := 1) (lv' := [(5, .int (nI 1)), (4, .int (cSt x c 1)), (3, .int (cSt x c 0)), (2, .int (cNm x c)), (0, .ref (ad 1)), (1, .int (nI c))]) hx hb dX0_isSynced_68 hl rfl (by omega) (by decide) rfl (fun ls hl => ?_)
        refine lv_goto (tgt := 24) hx hb dX0_isSynced_71 (by decide) ?_
        refine lv_iload hx hb dX0_isSynced_24 (lv_at hl 0 rfl) ?_
        refine lv_iconst (v := nI 3) hx hb dX0_isSynced_26 (by decide) ?_
        refine r_cgeN (a := 1) (b := 3) (tgt := 74) hx hb (by omega) (by omega) dX0_isSynced_27 (by decide) (fun h => absurd h (by omega)) (fun _ => ?_)
        refine lv_aload_n hx hb dX0_isSynced_30 rfl (lv_at hl 4 rfl) ?_
        refine lv_iload_n hx hb dX0_isSynced_31 rfl (lv_at hl 5 rfl) ?_
        refine lv_iload hx hb dX0_isSynced_32 (lv_at hl 0 rfl) ?_
        refine k_Ri (va_runV (As := [.int (nI c), .int (nI 1)]) (rest := []) hF (c_X0_nameIn_1 l D cI cA ad n x c hc) (cwV 2 hts gX0_isSynced_X0_nameIn rfl rfl rfl (by decide +kernel) ⟨(Nat.le_of_ble_eq_true rfl), (Nat.le_of_ble_eq_true rfl)⟩) (k_pre hP hK hD hT (k := 1) (by decide) cF_1 rfl) rfl rfl hl.1 rfl (lv_room (Nat.le_of_ble_eq_true rfl)) dX0_isSynced_34 ⟨Nat.zero_le _, Nat.zero_le _⟩) ?_
        refine lv_iload_n hx hb dX0_isSynced_37 rfl (lv_at hl 3 rfl) ?_
        refine lv_icmp_ne (tgt := 66) hx hb dX0_isSynced_38 (by decide) (fun h38_6 => ?_) (fun h38_6 => ?_)
        · refine lv_iconst (v := nI 0) hx hb dX0_isSynced_66 (by decide) ?_
          exact hret _ _ _ dX0_isSynced_67 (by simp [synB, synV, bI, h38_2, h50_3, h63_4, h38_6])
        · refine lv_aload_n hx hb dX0_isSynced_41 rfl (lv_at hl 4 rfl) ?_
          refine lv_iload_n hx hb dX0_isSynced_42 rfl (lv_at hl 5 rfl) ?_
          refine lv_iload hx hb dX0_isSynced_43 (lv_at hl 0 rfl) ?_
          refine lv_iconst (v := nI 0) hx hb dX0_isSynced_45 (by decide) ?_
          refine k_Ri (va_runV (As := [.int (nI c), .int (nI 1), .int (nI 0)]) (rest := []) hF (c_X0_setOf_1 l D cI cA ad n x c 0 hc (by omega)) (cwV 3 hts gX0_isSynced_X0_setOf rfl rfl rfl (by decide +kernel) ⟨(Nat.le_of_ble_eq_true rfl), (Nat.le_of_ble_eq_true rfl)⟩) (k_pre hP hK hD hT (k := 1) (by decide) cF_1 rfl) rfl rfl hl.1 rfl (lv_room (Nat.le_of_ble_eq_true rfl)) dX0_isSynced_46 ⟨Nat.zero_le _, Nat.zero_le _⟩) ?_
          refine lv_iload_n hx hb dX0_isSynced_49 rfl (lv_at hl 2 rfl) ?_
          refine lv_icmp_ne (tgt := 66) hx hb dX0_isSynced_50 (by decide) (fun h50_7 => ?_) (fun h50_7 => ?_)
          · refine lv_iconst (v := nI 0) hx hb dX0_isSynced_66 (by decide) ?_
            exact hret _ _ _ dX0_isSynced_67 (by simp [synB, synV, bI, h38_2, h50_3, h63_4, h38_6, h50_7])
          · refine lv_aload_n hx hb dX0_isSynced_53 rfl (lv_at hl 4 rfl) ?_
            refine lv_iload_n hx hb dX0_isSynced_54 rfl (lv_at hl 5 rfl) ?_
            refine lv_iload hx hb dX0_isSynced_55 (lv_at hl 0 rfl) ?_
            refine lv_iconst (v := nI 1) hx hb dX0_isSynced_57 (by decide) ?_
            refine k_Ri (va_runV (As := [.int (nI c), .int (nI 1), .int (nI 1)]) (rest := []) hF (c_X0_setOf_1 l D cI cA ad n x c 1 hc (by omega)) (cwV 3 hts gX0_isSynced_X0_setOf rfl rfl rfl (by decide +kernel) ⟨(Nat.le_of_ble_eq_true rfl), (Nat.le_of_ble_eq_true rfl)⟩) (k_pre hP hK hD hT (k := 1) (by decide) cF_1 rfl) rfl rfl hl.1 rfl (lv_room (Nat.le_of_ble_eq_true rfl)) dX0_isSynced_58 ⟨Nat.zero_le _, Nat.zero_le _⟩) ?_
            refine lv_iload hx hb dX0_isSynced_61 (lv_at hl 1 rfl) ?_
            refine lv_icmp_eq (tgt := 68) hx hb dX0_isSynced_63 (by decide) (fun h63_8 => ?_) (fun h63_8 => ?_)
            · refine r_iincN (k := 0) (a := 1) (d := 1) (r := 2) (lv' := [(5, .int (nI 2)), (4, .int (cSt x c 1)), (3, .int (cSt x c 0)), (2, .int (cNm x c)), (0, .ref (ad 1)), (1, .int (nI c))]) hx hb dX0_isSynced_68 hl rfl (by omega) (by decide) rfl (fun ls hl => ?_)
              refine lv_goto (tgt := 24) hx hb dX0_isSynced_71 (by decide) ?_
              refine lv_iload hx hb dX0_isSynced_24 (lv_at hl 0 rfl) ?_
              refine lv_iconst (v := nI 3) hx hb dX0_isSynced_26 (by decide) ?_
              refine r_cgeN (a := 2) (b := 3) (tgt := 74) hx hb (by omega) (by omega) dX0_isSynced_27 (by decide) (fun h => absurd h (by omega)) (fun _ => ?_)
              refine lv_aload_n hx hb dX0_isSynced_30 rfl (lv_at hl 4 rfl) ?_
              refine lv_iload_n hx hb dX0_isSynced_31 rfl (lv_at hl 5 rfl) ?_
              refine lv_iload hx hb dX0_isSynced_32 (lv_at hl 0 rfl) ?_
              refine k_Ri (va_runV (As := [.int (nI c), .int (nI 2)]) (rest := []) hF (c_X0_nameIn_2 l D cI cA ad n x c hc) (cwV 2 hts gX0_isSynced_X0_nameIn rfl rfl rfl (by decide +kernel) ⟨(Nat.le_of_ble_eq_true rfl), (Nat.le_of_ble_eq_true rfl)⟩) (k_pre hP hK hD hT (k := 1) (by decide) cF_1 rfl) rfl rfl hl.1 rfl (lv_room (Nat.le_of_ble_eq_true rfl)) dX0_isSynced_34 ⟨Nat.zero_le _, Nat.zero_le _⟩) ?_
              refine lv_iload_n hx hb dX0_isSynced_37 rfl (lv_at hl 3 rfl) ?_
              refine lv_icmp_ne (tgt := 66) hx hb dX0_isSynced_38 (by decide) (fun h38_10 => ?_) (fun h38_10 => ?_)
              · refine lv_iconst (v := nI 0) hx hb dX0_isSynced_66 (by decide) ?_
                exact hret _ _ _ dX0_isSynced_67 (by simp [synB, synV, bI, h38_2, h50_3, h63_4, h38_6, h50_7, h63_8, h38_10])
              · refine lv_aload_n hx hb dX0_isSynced_41 rfl (lv_at hl 4 rfl) ?_
                refine lv_iload_n hx hb dX0_isSynced_42 rfl (lv_at hl 5 rfl) ?_
                refine lv_iload hx hb dX0_isSynced_43 (lv_at hl 0 rfl) ?_
                refine lv_iconst (v := nI 0) hx hb dX0_isSynced_45 (by decide) ?_
                refine k_Ri (va_runV (As := [.int (nI c), .int (nI 2), .int (nI 0)]) (rest := []) hF (c_X0_setOf_2 l D cI cA ad n x c 0 hc (by omega)) (cwV 3 hts gX0_isSynced_X0_setOf rfl rfl rfl (by decide +kernel) ⟨(Nat.le_of_ble_eq_true rfl), (Nat.le_of_ble_eq_true rfl)⟩) (k_pre hP hK hD hT (k := 1) (by decide) cF_1 rfl) rfl rfl hl.1 rfl (lv_room (Nat.le_of_ble_eq_true rfl)) dX0_isSynced_46 ⟨Nat.zero_le _, Nat.zero_le _⟩) ?_
                refine lv_iload_n hx hb dX0_isSynced_49 rfl (lv_at hl 2 rfl) ?_
                refine lv_icmp_ne (tgt := 66) hx hb dX0_isSynced_50 (by decide) (fun h50_11 => ?_) (fun h50_11 => ?_)
                · refine lv_iconst (v := nI 0) hx hb dX0_isSynced_66 (by decide) ?_
                  exact hret _ _ _ dX0_isSynced_67 (by simp [synB, synV, bI, h38_2, h50_3, h63_4, h38_6, h50_7, h63_8, h38_10, h50_11])
                · refine lv_aload_n hx hb dX0_isSynced_53 rfl (lv_at hl 4 rfl) ?_
                  refine lv_iload_n hx hb dX0_isSynced_54 rfl (lv_at hl 5 rfl) ?_
                  refine lv_iload hx hb dX0_isSynced_55 (lv_at hl 0 rfl) ?_
                  refine lv_iconst (v := nI 1) hx hb dX0_isSynced_57 (by decide) ?_
                  refine k_Ri (va_runV (As := [.int (nI c), .int (nI 2), .int (nI 1)]) (rest := []) hF (c_X0_setOf_2 l D cI cA ad n x c 1 hc (by omega)) (cwV 3 hts gX0_isSynced_X0_setOf rfl rfl rfl (by decide +kernel) ⟨(Nat.le_of_ble_eq_true rfl), (Nat.le_of_ble_eq_true rfl)⟩) (k_pre hP hK hD hT (k := 1) (by decide) cF_1 rfl) rfl rfl hl.1 rfl (lv_room (Nat.le_of_ble_eq_true rfl)) dX0_isSynced_58 ⟨Nat.zero_le _, Nat.zero_le _⟩) ?_
                  refine lv_iload hx hb dX0_isSynced_61 (lv_at hl 1 rfl) ?_
                  refine lv_icmp_eq (tgt := 68) hx hb dX0_isSynced_63 (by decide) (fun h63_12 => ?_) (fun h63_12 => ?_)
                  · refine r_iincN (k := 0) (a := 2) (d := 1) (r := 3) (lv' := [(5, .int (nI 3)), (4, .int (cSt x c 1)), (3, .int (cSt x c 0)), (2, .int (cNm x c)), (0, .ref (ad 1)), (1, .int (nI c))]) hx hb dX0_isSynced_68 hl rfl (by omega) (by decide) rfl (fun ls hl => ?_)
                    refine lv_goto (tgt := 24) hx hb dX0_isSynced_71 (by decide) ?_
                    refine lv_iload hx hb dX0_isSynced_24 (lv_at hl 0 rfl) ?_
                    refine lv_iconst (v := nI 3) hx hb dX0_isSynced_26 (by decide) ?_
                    refine r_cgeN (a := 3) (b := 3) (tgt := 74) hx hb (by omega) (by omega) dX0_isSynced_27 (by decide) (fun _ => ?_) (fun h => absurd h (by omega))
                    refine lv_iconst (v := nI 1) hx hb dX0_isSynced_74 (by decide) ?_
                    exact hret _ _ _ dX0_isSynced_75 (by simp [synB, synV, bI, h38_2, h50_3, h63_4, h38_6, h50_7, h63_8, h38_10, h50_11, h63_12])
                  · refine lv_iconst (v := nI 0) hx hb dX0_isSynced_66 (by decide) ?_
                    exact hret _ _ _ dX0_isSynced_67 (by simp [synB, synV, bI, h38_2, h50_3, h63_4, h38_6, h50_7, h63_8, h38_10, h50_11, h63_12])
            · refine lv_iconst (v := nI 0) hx hb dX0_isSynced_66 (by decide) ?_
              exact hret _ _ _ dX0_isSynced_67 (by simp [synB, synV, bI, h38_2, h50_3, h63_4, h38_6, h50_7, h63_8])
      · refine lv_iconst (v := nI 0) hx hb dX0_isSynced_66 (by decide) ?_
        exact hret _ _ _ dX0_isSynced_67 (by simp [synB, synV, bI, h38_2, h50_3, h63_4])
set_option maxHeartbeats 4000000 in
set_option maxRecDepth 100000 in
theorem c_X0_countShared (l : Launch) (D : va_G) (cI : ClassId) (cA : ClassId) (ad : Nat → Nat) (n : Nat) (x : Nat → Nat → Int32) (c : Nat) (d : Nat) (k : Nat) (hc : c < 24) (hd : d < 24) (hk : k < 2) : Met l yX0_countShared wsX0_countShared ({ frames := 1, cells := 0, slots := 0, locals := 23 }) (va_Pc [.ref (ad 1), .int (nI c), .int (nI d), .int (nI k)] (cX D cI cA ad n x)) (qR (some (.int (shr x c d k)))) 0 0 nF := by
  refine c_ofR (cc := cX0_countShared) (maxL := 4) (ret := .int) (by decide) rfl rfl (Nat.le_of_ble_eq_true rfl) ?_
  intro p e s m av below meth cd Q hx hb hF hP hK hD hT hret ls hl
  have hown : s.vm.findClass RX0 = some m.cls := hF.2.2.2.1
  have hF : CallFix p m cd cX0_countShared 4 s av wsX0_countShared RX0 := hF
  have hts := hF.2.2.2.2
  have hl : lv_has ls 4 [(0, .ref (ad 1)), (1, .int (nI c)), (2, .int (nI d)), (3, .int (nI k))] := hl
  refine lv_aload_n hx hb dX0_countShared_0 rfl (lv_at hl 0 rfl) ?_
  refine lv_iload_n hx hb dX0_countShared_1 rfl (lv_at hl 1 rfl) ?_
  refine lv_iconst (v := nI 0) hx hb dX0_countShared_2 (by decide) ?_
  refine lv_iload_n hx hb dX0_countShared_3 rfl (lv_at hl 3 rfl) ?_
  refine k_Ri (va_runV (As := [.int (nI c), .int (nI 0), .int (nI k)]) (rest := []) hF (c_X0_setOf_0 l D cI cA ad n x c k hc hk) (cwV 3 hts gX0_countShared_X0_setOf rfl rfl rfl (by decide +kernel) ⟨(Nat.le_of_ble_eq_true rfl), (Nat.le_of_ble_eq_true rfl)⟩) (k_pre hP hK hD hT (k := 1) (by decide) cF_1 rfl) rfl rfl hl.1 rfl (lv_room (Nat.le_of_ble_eq_true rfl)) dX0_countShared_4 ⟨Nat.zero_le _, Nat.zero_le _⟩) ?_
  refine lv_aload_n hx hb dX0_countShared_7 rfl (lv_at hl 0 rfl) ?_
  refine lv_iload_n hx hb dX0_countShared_8 rfl (lv_at hl 2 rfl) ?_
  refine lv_iconst (v := nI 0) hx hb dX0_countShared_9 (by decide) ?_
  refine lv_iload_n hx hb dX0_countShared_10 rfl (lv_at hl 3 rfl) ?_
  refine k_Ri (va_runV (As := [.int (nI d), .int (nI 0), .int (nI k)]) (rest := [.int (x (k + 16) c)]) hF (c_X0_setOf_0 l D cI cA ad n x d k hd hk) (cwV 3 hts gX0_countShared_X0_setOf rfl rfl rfl (by decide +kernel) ⟨(Nat.le_of_ble_eq_true rfl), (Nat.le_of_ble_eq_true rfl)⟩) (k_pre hP hK hD hT (k := 1) (by decide) cF_1 rfl) rfl rfl hl.1 rfl (lv_room (Nat.le_of_ble_eq_true rfl)) dX0_countShared_11 ⟨Nat.zero_le _, Nat.zero_le _⟩) ?_
  refine lv_iand hx hb dX0_countShared_14 ?_
  refine k_Ri (va_runS (As := [.int ((x (k + 16) c) &&& (x (k + 16) d))]) (rest := []) hF (c_J6_bitCount_0f7a4 l ((x (k + 16) c) &&& (x (k + 16) d))) (va_cwS 1 hts gX0_countShared_J6_bitCount_0f7a4 rfl rfl rfl (by decide +kernel) ⟨(Nat.le_of_ble_eq_true rfl), (Nat.le_of_ble_eq_true rfl)⟩) k_preS rfl rfl hl.1 rfl (lv_room (Nat.le_of_ble_eq_true rfl)) dX0_countShared_15 ⟨Nat.zero_le _, Nat.zero_le _⟩) ?_
  exact hret _ _ _ dX0_countShared_18 (rfl)
set_option maxHeartbeats 4000000 in
set_option maxRecDepth 100000 in
theorem c_X0_isAhead (l : Launch) (D : va_G) (cI : ClassId) (cA : ClassId) (ad : Nat → Nat) (n : Nat) (x : Nat → Nat → Int32) (c : Nat) (d : Nat) (hc : c < 24) (hd : d < 24) : Met l yX0_isAhead wsX0_isAhead ({ frames := 0, cells := 0, slots := 0, locals := 0 }) (va_Pc [.ref (ad 1), .int (nI c), .int (nI d)] (cX D cI cA ad n x)) (qR (some (.int (bI (isAh (x 4) c d))))) 0 0 nF := by
  refine c_ofR (cc := cX0_isAhead) (maxL := 3) (ret := .boolean) (by decide) rfl (nar_bI _) (Nat.le_of_ble_eq_true rfl) ?_
  intro p e s m av below meth cd Q hx hb hF hP hK hD hT hret ls hl
  have hown : s.vm.findClass RX0 = some m.cls := hF.2.2.2.1
  have hF : CallFix p m cd cX0_isAhead 3 s av wsX0_isAhead RX0 := hF
  have hts := hF.2.2.2.2
  have hl : lv_has ls 3 [(0, .ref (ad 1)), (1, .int (nI c)), (2, .int (nI d))] := hl
  refine lv_aload_n hx hb dX0_isAhead_0 rfl (lv_at hl 0 rfl) ?_
  refine r_get (C := RX0) (T := TX0) (M := 5) (index := 9) (fd := "books") (fo := "[I") hx hb hts (by decide +kernel) hown hK hP 1 (by decide) cF_1 rfl 0 (by decide) rfl (by decide +kernel) rfl dX0_isAhead_1 ?_
  refine lv_iload_n hx hb dX0_isAhead_4 rfl (lv_at hl 1 rfl) ?_
  refine r_iald hx hb hK hP 4 0 (by omega) (cF_a (by omega)) rfl (i := c) (by omega) (by decide) dX0_isAhead_5 ?_
  refine lv_aload_n hx hb dX0_isAhead_6 rfl (lv_at hl 0 rfl) ?_
  refine r_get (C := RX0) (T := TX0) (M := 5) (index := 9) (fd := "books") (fo := "[I") hx hb hts (by decide +kernel) hown hK hP 1 (by decide) cF_1 rfl 0 (by decide) rfl (by decide +kernel) rfl dX0_isAhead_7 ?_
  refine lv_iload_n hx hb dX0_isAhead_10 rfl (lv_at hl 2 rfl) ?_
  refine r_iald hx hb hK hP 4 0 (by omega) (cF_a (by omega)) rfl (i := d) (by omega) (by decide) dX0_isAhead_11 ?_
  refine lv_icmp_lt (tgt := 35) hx hb dX0_isAhead_12 (by decide) (fun h12_1 => ?_) (fun h12_1 => ?_)
  · refine lv_iconst (v := nI 1) hx hb dX0_isAhead_35 (by decide) ?_
    refine lv_goto (tgt := 40) hx hb dX0_isAhead_36 (by decide) ?_
    exact hret _ _ _ dX0_isAhead_40 (by first | (rw [show isAh (x 4) c d = true from decide_eq_true (by first | exact Or.inl (by assumption) | exact Or.inr ⟨by assumption, by omega⟩)]; rfl) | (rw [show isAh (x 4) c d = false from decide_eq_false (by rintro (q | ⟨q1, q2⟩) <;> first | exact absurd q (by assumption) | exact absurd q1 (by assumption) | omega)]; rfl))
  · refine lv_aload_n hx hb dX0_isAhead_15 rfl (lv_at hl 0 rfl) ?_
    refine r_get (C := RX0) (T := TX0) (M := 5) (index := 9) (fd := "books") (fo := "[I") hx hb hts (by decide +kernel) hown hK hP 1 (by decide) cF_1 rfl 0 (by decide) rfl (by decide +kernel) rfl dX0_isAhead_16 ?_
    refine lv_iload_n hx hb dX0_isAhead_19 rfl (lv_at hl 1 rfl) ?_
    refine r_iald hx hb hK hP 4 0 (by omega) (cF_a (by omega)) rfl (i := c) (by omega) (by decide) dX0_isAhead_20 ?_
    refine lv_aload_n hx hb dX0_isAhead_21 rfl (lv_at hl 0 rfl) ?_
    refine r_get (C := RX0) (T := TX0) (M := 5) (index := 9) (fd := "books") (fo := "[I") hx hb hts (by decide +kernel) hown hK hP 1 (by decide) cF_1 rfl 0 (by decide) rfl (by decide +kernel) rfl dX0_isAhead_22 ?_
    refine lv_iload_n hx hb dX0_isAhead_25 rfl (lv_at hl 2 rfl) ?_
    refine r_iald hx hb hK hP 4 0 (by omega) (cF_a (by omega)) rfl (i := d) (by omega) (by decide) dX0_isAhead_26 ?_
    refine lv_icmp_ne (tgt := 39) hx hb dX0_isAhead_27 (by decide) (fun h27_2 => ?_) (fun h27_2 => ?_)
    · refine lv_iconst (v := nI 0) hx hb dX0_isAhead_39 (by decide) ?_
      exact hret _ _ _ dX0_isAhead_40 (by first | (rw [show isAh (x 4) c d = true from decide_eq_true (by first | exact Or.inl (by assumption) | exact Or.inr ⟨by assumption, by omega⟩)]; rfl) | (rw [show isAh (x 4) c d = false from decide_eq_false (by rintro (q | ⟨q1, q2⟩) <;> first | exact absurd q (by assumption) | exact absurd q1 (by assumption) | omega)]; rfl))
    · refine lv_iload_n hx hb dX0_isAhead_30 rfl (lv_at hl 1 rfl) ?_
      refine lv_iload_n hx hb dX0_isAhead_31 rfl (lv_at hl 2 rfl) ?_
      refine r_cgeN (a := c) (b := d) (tgt := 39) hx hb (by omega) (by omega) dX0_isAhead_32 (by decide) (fun h32_3 => ?_) (fun h32_3 => ?_)
      · refine lv_iconst (v := nI 0) hx hb dX0_isAhead_39 (by decide) ?_
        exact hret _ _ _ dX0_isAhead_40 (by first | (rw [show isAh (x 4) c d = true from decide_eq_true (by first | exact Or.inl (by assumption) | exact Or.inr ⟨by assumption, by omega⟩)]; rfl) | (rw [show isAh (x 4) c d = false from decide_eq_false (by rintro (q | ⟨q1, q2⟩) <;> first | exact absurd q (by assumption) | exact absurd q1 (by assumption) | omega)]; rfl))
      · refine lv_iconst (v := nI 1) hx hb dX0_isAhead_35 (by decide) ?_
        refine lv_goto (tgt := 40) hx hb dX0_isAhead_36 (by decide) ?_
        exact hret _ _ _ dX0_isAhead_40 (by first | (rw [show isAh (x 4) c d = true from decide_eq_true (by first | exact Or.inl (by assumption) | exact Or.inr ⟨by assumption, by omega⟩)]; rfl) | (rw [show isAh (x 4) c d = false from decide_eq_false (by rintro (q | ⟨q1, q2⟩) <;> first | exact absurd q (by assumption) | exact absurd q1 (by assumption) | omega)]; rfl))
set_option maxHeartbeats 4000000 in
set_option maxRecDepth 100000 in
theorem c_X0_preferredOf (l : Launch) (D : va_G) (cI : ClassId) (cA : ClassId) (ad : Nat → Nat) (n : Nat) (x : Nat → Nat → Int32) (c : Nat) (g : Int32) (hc : c < n) (hn : n ≤ 24) : Met l yX0_preferredOf wsX0_preferredOf ({ frames := 1, cells := 0, slots := 0, locals := 22 }) (va_Pc [.ref (ad 1), .int (nI c), .int g] (cX D cI cA ad n x)) (qR (some (.int (nI (prefF (x 4) g c n))))) 0 0 nF := by
  refine c_ofR (cc := cX0_preferredOf) (maxL := 5) (ret := .int) (by decide) rfl rfl (Nat.le_of_ble_eq_true rfl) ?_
  intro p e s m av below meth cd Q hx hb hF hP hK hD hT hret ls hl
  have hown : s.vm.findClass RX0 = some m.cls := hF.2.2.2.1
  have hF : CallFix p m cd cX0_preferredOf 5 s av wsX0_preferredOf RX0 := hF
  have hts := hF.2.2.2.2
  have hl : lv_has ls 5 [(0, .ref (ad 1)), (1, .int (nI c)), (2, .int g)] := hl
  refine lv_iload_n hx hb dX0_preferredOf_0 rfl (lv_at hl 1 rfl) ?_
  refine lv_istore_n (lv' := [(3, .int (nI c)), (0, .ref (ad 1)), (1, .int (nI c)), (2, .int g)]) hx hb dX0_preferredOf_1 rfl hl (by decide) rfl (fun ls hl => ?_)
  refine lv_iconst (v := nI 0) hx hb dX0_preferredOf_2 (by decide) ?_
  refine lv_istore (lv' := [(4, .int (nI 0)), (3, .int (nI c)), (0, .ref (ad 1)), (1, .int (nI c)), (2, .int g)]) hx hb dX0_preferredOf_3 hl (by decide) rfl (fun ls hl => ?_)
  have hL5 : ∀ i : Nat, i ≤ n → ∀ ls : Array Slot, lv_has ls 5 [(0, .ref (ad 1)), (2, .int g), (3, .int (nI (prefF (x 4) g c i))), (4, .int (nI i))] → W p l e ({ frames := 1, cells := 0, slots := 0, locals := 22 }) s m av below meth cd s.heap [] 0 0 Q (F0 m 5 ls []) := by
    refine down (n) ?_ ?_
    · intro ls hl
      refine lv_iload hx hb dX0_preferredOf_5 (lv_at hl 3 rfl) ?_
      refine lv_aload_n hx hb dX0_preferredOf_7 rfl (lv_at hl 0 rfl) ?_
      refine r_get (C := RX0) (T := TX0) (M := 5) (index := 26) (fd := "count") (fo := "I") hx hb hts (by decide +kernel) hown hK hP 1 (by decide) cF_1 rfl 4 (by decide) rfl (by decide +kernel) rfl dX0_preferredOf_8 ?_
      refine r_cgeN (a := n) (b := n) (tgt := 42) hx hb (by omega) (by omega) dX0_preferredOf_11 (by decide) (fun _ => ?_) (fun h => absurd h (by omega))
      refine lv_iload_n hx hb dX0_preferredOf_42 rfl (lv_at hl 2 rfl) ?_
      exact hret _ _ _ dX0_preferredOf_43 (rfl)
    · intro i hi5 ih5 ls hl
      refine lv_iload hx hb dX0_preferredOf_5 (lv_at hl 3 rfl) ?_
      refine lv_aload_n hx hb dX0_preferredOf_7 rfl (lv_at hl 0 rfl) ?_
      refine r_get (C := RX0) (T := TX0) (M := 5) (index := 26) (fd := "count") (fo := "I") hx hb hts (by decide +kernel) hown hK hP 1 (by decide) cF_1 rfl 4 (by decide) rfl (by decide +kernel) rfl dX0_preferredOf_8 ?_
      refine r_cgeN (a := i) (b := n) (tgt := 42) hx hb (by omega) (by omega) dX0_preferredOf_11 (by decide) (fun h => absurd h (by omega)) (fun _ => ?_)
      refine lv_iload_n hx hb dX0_preferredOf_14 rfl (lv_at hl 1 rfl) ?_
      refine lv_iload hx hb dX0_preferredOf_15 (lv_at hl 3 rfl) ?_
      refine k_Ri (va_runSN (As := [.int g, .int (nI i)]) (rest := []) hF (c_X3_has l i g) ⟨va_cnB 2 hts gX0_preferredOf_X3_has_n34 rfl rfl rfl hT.2.1 (hts (.initialized RX3) (by decide +kernel)) (by decide +kernel) ⟨(Nat.le_of_ble_eq_true rfl), (Nat.le_of_ble_eq_true rfl)⟩, hts (.static yX3_has) (by decide +kernel), trivial⟩ k_preS rfl rfl hl.1 rfl (lv_room (Nat.le_of_ble_eq_true rfl)) dX0_preferredOf_17 ⟨Nat.zero_le _, Nat.zero_le _⟩) ?_
      refine r_ifeqB (b := hasB g i) (tgt := 36) hx hb dX0_preferredOf_20 (by decide) (fun h20_3 => ?_) (fun h20_3 => ?_)
      · refine r_iincN (k := 3) (a := i) (d := 1) (r := i + 1) (lv' := [(4, .int (nI (i + 1))), (0, .ref (ad 1)), (2, .int g), (3, .int (nI (prefF (x 4) g c i)))]) hx hb dX0_preferredOf_36 hl rfl (by omega) (by decide) rfl (fun ls hl => ?_)
        refine lv_goto (tgt := 5) hx hb dX0_preferredOf_39 (by decide) ?_
        exact ih5 _ (lv_cast (lv_sub (l' := [(0, .ref (ad 1)), (2, .int g), (3, .int (nI (prefF (x 4) g c i))), (4, .int (nI (i + 1)))]) hl [1, 2, 3, 0] rfl) (by rw [show (nI (prefF (x 4) g c (i + 1)) : Int32) = nI (prefF (x 4) g c i) from by simp [prefF, h20_3]]))
      · refine lv_aload_n hx hb dX0_preferredOf_23 rfl (lv_at hl 0 rfl) ?_
        refine lv_iload hx hb dX0_preferredOf_24 (lv_at hl 3 rfl) ?_
        refine lv_iload_n hx hb dX0_preferredOf_26 rfl (lv_at hl 2 rfl) ?_
        refine k_Ri (va_runV (As := [.int (nI i), .int (nI (prefF (x 4) g c i))]) (rest := []) hF (c_X0_isAhead l D cI cA ad n x i (prefF (x 4) g c i) (by omega) (Nat.lt_of_lt_of_le (prefF_lt hc i (by omega)) hn)) (cwV 2 hts gX0_preferredOf_X0_isAhead rfl rfl rfl (by decide +kernel) ⟨(Nat.le_of_ble_eq_true rfl), (Nat.le_of_ble_eq_true rfl)⟩) (k_pre hP hK hD hT (k := 1) (by decide) cF_1 rfl) rfl rfl hl.1 rfl (lv_room (Nat.le_of_ble_eq_true rfl)) dX0_preferredOf_27 ⟨Nat.zero_le _, Nat.zero_le _⟩) ?_
        refine r_ifeqB (b := isAh (x 4) i (prefF (x 4) g c i)) (tgt := 36) hx hb dX0_preferredOf_30 (by decide) (fun h30_4 => ?_) (fun h30_4 => ?_)
        · refine r_iincN (k := 3) (a := i) (d := 1) (r := i + 1) (lv' := [(4, .int (nI (i + 1))), (0, .ref (ad 1)), (2, .int g), (3, .int (nI (prefF (x 4) g c i)))]) hx hb dX0_preferredOf_36 hl rfl (by omega) (by decide) rfl (fun ls hl => ?_)
          refine lv_goto (tgt := 5) hx hb dX0_preferredOf_39 (by decide) ?_
          exact ih5 _ (lv_cast (lv_sub (l' := [(0, .ref (ad 1)), (2, .int g), (3, .int (nI (prefF (x 4) g c i))), (4, .int (nI (i + 1)))]) hl [1, 2, 3, 0] rfl) (by rw [show (nI (prefF (x 4) g c (i + 1)) : Int32) = nI (prefF (x 4) g c i) from by simp [prefF, h20_3, h30_4]]))
        · refine lv_iload hx hb dX0_preferredOf_33 (lv_at hl 3 rfl) ?_
          refine lv_istore_n (lv' := [(3, .int (nI i)), (0, .ref (ad 1)), (2, .int g), (4, .int (nI i))]) hx hb dX0_preferredOf_35 rfl hl (by decide) rfl (fun ls hl => ?_)
          refine r_iincN (k := 3) (a := i) (d := 1) (r := i + 1) (lv' := [(4, .int (nI (i + 1))), (3, .int (nI i)), (0, .ref (ad 1)), (2, .int g)]) hx hb dX0_preferredOf_36 hl rfl (by omega) (by decide) rfl (fun ls hl => ?_)
          refine lv_goto (tgt := 5) hx hb dX0_preferredOf_39 (by decide) ?_
          exact ih5 _ (lv_cast (lv_sub (l' := [(0, .ref (ad 1)), (2, .int g), (3, .int (nI i)), (4, .int (nI (i + 1)))]) hl [2, 3, 1, 0] rfl) (by rw [show (nI (prefF (x 4) g c (i + 1)) : Int32) = nI i from by simp [prefF, h20_3, h30_4]]))
  exact hL5 0 (Nat.zero_le _) _ (lv_cast (lv_sub (l' := [(0, .ref (ad 1)), (2, .int g), (3, .int (nI c)), (4, .int (nI 0))]) hl [2, 4, 1, 0] rfl) (by rw [show (nI (prefF (x 4) g c 0) : Int32) = nI c from rfl]))
set_option maxHeartbeats 4000000 in
set_option maxRecDepth 100000 in
theorem c_X0_mineOfAll (l : Launch) (D : va_G) (cI : ClassId) (cA : ClassId) (ad : Nat → Nat) (n : Nat) (x : Nat → Nat → Int32) (k : Nat) (g : Int32) (hk : k < 2) (hn : n ≤ 24) : Met l yX0_mineOfAll wsX0_mineOfAll ({ frames := 1, cells := 0, slots := 0, locals := 23 }) (va_Pc [.ref (ad 1), .int g, .int (nI k)] (cX D cI cA ad n x)) (qR (some (.int (orF g (x (k + 16)) n)))) 0 0 nF := by
  refine c_ofR (cc := cX0_mineOfAll) (maxL := 5) (ret := .int) (by decide) rfl rfl (Nat.le_of_ble_eq_true rfl) ?_
  intro p e s m av below meth cd Q hx hb hF hP hK hD hT hret ls hl
  have hown : s.vm.findClass RX0 = some m.cls := hF.2.2.2.1
  have hF : CallFix p m cd cX0_mineOfAll 5 s av wsX0_mineOfAll RX0 := hF
  have hts := hF.2.2.2.2
  have hl : lv_has ls 5 [(0, .ref (ad 1)), (1, .int g), (2, .int (nI k))] := hl
  refine lv_iconst (v := nI 0) hx hb dX0_mineOfAll_0 (by decide) ?_
  refine lv_istore_n (lv' := [(3, .int (nI 0)), (0, .ref (ad 1)), (1, .int g), (2, .int (nI k))]) hx hb dX0_mineOfAll_1 rfl hl (by decide) rfl (fun ls hl => ?_)
  refine lv_iconst (v := nI 0) hx hb dX0_mineOfAll_2 (by decide) ?_
  refine lv_istore (lv' := [(4, .int (nI 0)), (3, .int (nI 0)), (0, .ref (ad 1)), (1, .int g), (2, .int (nI k))]) hx hb dX0_mineOfAll_3 hl (by decide) rfl (fun ls hl => ?_)
  have hL5 : ∀ i : Nat, i ≤ n → ∀ ls : Array Slot, lv_has ls 5 [(0, .ref (ad 1)), (1, .int g), (2, .int (nI k)), (3, .int (orF g (x (k + 16)) i)), (4, .int (nI i))] → W p l e ({ frames := 1, cells := 0, slots := 0, locals := 23 }) s m av below meth cd s.heap [] 0 0 Q (F0 m 5 ls []) := by
    refine down (n) ?_ ?_
    · intro ls hl
      refine lv_iload hx hb dX0_mineOfAll_5 (lv_at hl 4 rfl) ?_
      refine lv_aload_n hx hb dX0_mineOfAll_7 rfl (lv_at hl 0 rfl) ?_
      refine r_get (C := RX0) (T := TX0) (M := 5) (index := 26) (fd := "count") (fo := "I") hx hb hts (by decide +kernel) hown hK hP 1 (by decide) cF_1 rfl 4 (by decide) rfl (by decide +kernel) rfl dX0_mineOfAll_8 ?_
      refine r_cgeN (a := n) (b := n) (tgt := 40) hx hb (by omega) (by omega) dX0_mineOfAll_11 (by decide) (fun _ => ?_) (fun h => absurd h (by omega))
      refine lv_iload_n hx hb dX0_mineOfAll_40 rfl (lv_at hl 3 rfl) ?_
      exact hret _ _ _ dX0_mineOfAll_41 (rfl)
    · intro i hi5 ih5 ls hl
      refine lv_iload hx hb dX0_mineOfAll_5 (lv_at hl 4 rfl) ?_
      refine lv_aload_n hx hb dX0_mineOfAll_7 rfl (lv_at hl 0 rfl) ?_
      refine r_get (C := RX0) (T := TX0) (M := 5) (index := 26) (fd := "count") (fo := "I") hx hb hts (by decide +kernel) hown hK hP 1 (by decide) cF_1 rfl 4 (by decide) rfl (by decide +kernel) rfl dX0_mineOfAll_8 ?_
      refine r_cgeN (a := i) (b := n) (tgt := 40) hx hb (by omega) (by omega) dX0_mineOfAll_11 (by decide) (fun h => absurd h (by omega)) (fun _ => ?_)
      refine lv_iload_n hx hb dX0_mineOfAll_14 rfl (lv_at hl 1 rfl) ?_
      refine lv_iload hx hb dX0_mineOfAll_15 (lv_at hl 4 rfl) ?_
      refine k_Ri (va_runSN (As := [.int g, .int (nI i)]) (rest := []) hF (c_X3_has l i g) ⟨va_cnB 2 hts gX0_mineOfAll_X3_has_n34 rfl rfl rfl hT.2.1 (hts (.initialized RX3) (by decide +kernel)) (by decide +kernel) ⟨(Nat.le_of_ble_eq_true rfl), (Nat.le_of_ble_eq_true rfl)⟩, hts (.static yX3_has) (by decide +kernel), trivial⟩ k_preS rfl rfl hl.1 rfl (lv_room (Nat.le_of_ble_eq_true rfl)) dX0_mineOfAll_17 ⟨Nat.zero_le _, Nat.zero_le _⟩) ?_
      refine r_ifeqB (b := hasB g i) (tgt := 34) hx hb dX0_mineOfAll_20 (by decide) (fun h20_3 => ?_) (fun h20_3 => ?_)
      · refine r_iincN (k := 4) (a := i) (d := 1) (r := i + 1) (lv' := [(4, .int (nI (i + 1))), (0, .ref (ad 1)), (1, .int g), (2, .int (nI k)), (3, .int (orF g (x (k + 16)) i))]) hx hb dX0_mineOfAll_34 hl rfl (by omega) (by decide) rfl (fun ls hl => ?_)
        refine lv_goto (tgt := 5) hx hb dX0_mineOfAll_37 (by decide) ?_
        exact ih5 _ (lv_cast (lv_sub (l' := [(0, .ref (ad 1)), (1, .int g), (2, .int (nI k)), (3, .int (orF g (x (k + 16)) i)), (4, .int (nI (i + 1)))]) hl [1, 2, 3, 4, 0] rfl) (by rw [show (orF g (x (k + 16)) (i + 1) : Int32) = orF g (x (k + 16)) i from by simp [orF, h20_3]]))
      · refine lv_iload_n hx hb dX0_mineOfAll_23 rfl (lv_at hl 3 rfl) ?_
        refine lv_aload_n hx hb dX0_mineOfAll_24 rfl (lv_at hl 0 rfl) ?_
        refine lv_iload hx hb dX0_mineOfAll_25 (lv_at hl 4 rfl) ?_
        refine lv_iconst (v := nI 0) hx hb dX0_mineOfAll_27 (by decide) ?_
        refine lv_iload_n hx hb dX0_mineOfAll_28 rfl (lv_at hl 2 rfl) ?_
        refine k_Ri (va_runV (As := [.int (nI i), .int (nI 0), .int (nI k)]) (rest := [.int (orF g (x (k + 16)) i)]) hF (c_X0_setOf_0 l D cI cA ad n x i k (by omega) hk) (cwV 3 hts gX0_mineOfAll_X0_setOf rfl rfl rfl (by decide +kernel) ⟨(Nat.le_of_ble_eq_true rfl), (Nat.le_of_ble_eq_true rfl)⟩) (k_pre hP hK hD hT (k := 1) (by decide) cF_1 rfl) rfl rfl hl.1 rfl (lv_room (Nat.le_of_ble_eq_true rfl)) dX0_mineOfAll_29 ⟨Nat.zero_le _, Nat.zero_le _⟩) ?_
        refine lv_ior hx hb dX0_mineOfAll_32 ?_
        refine lv_istore_n (lv' := [(3, .int ((orF g (x (k + 16)) i) ||| (x (k + 16) i))), (0, .ref (ad 1)), (1, .int g), (2, .int (nI k)), (4, .int (nI i))]) hx hb dX0_mineOfAll_33 rfl hl (by decide) rfl (fun ls hl => ?_)
        refine r_iincN (k := 4) (a := i) (d := 1) (r := i + 1) (lv' := [(4, .int (nI (i + 1))), (3, .int ((orF g (x (k + 16)) i) ||| (x (k + 16) i))), (0, .ref (ad 1)), (1, .int g), (2, .int (nI k))]) hx hb dX0_mineOfAll_34 hl rfl (by omega) (by decide) rfl (fun ls hl => ?_)
        refine lv_goto (tgt := 5) hx hb dX0_mineOfAll_37 (by decide) ?_
        exact ih5 _ (lv_cast (lv_sub (l' := [(0, .ref (ad 1)), (1, .int g), (2, .int (nI k)), (3, .int ((orF g (x (k + 16)) i) ||| (x (k + 16) i))), (4, .int (nI (i + 1)))]) hl [2, 3, 4, 1, 0] rfl) (by rw [show (orF g (x (k + 16)) (i + 1) : Int32) = (orF g (x (k + 16)) i) ||| (x (k + 16) i) from by simp [orF, h20_3]]))
  exact hL5 0 (Nat.zero_le _) _ (lv_cast (lv_sub (l' := [(0, .ref (ad 1)), (1, .int g), (2, .int (nI k)), (3, .int (nI 0)), (4, .int (nI 0))]) hl [2, 3, 4, 1, 0] rfl) (by rw [show (orF g (x (k + 16)) 0 : Int32) = nI 0 from rfl]))
set_option maxHeartbeats 4000000 in
set_option maxRecDepth 100000 in
theorem c_X0_append (l : Launch) (D : va_G) (cI : ClassId) (cA : ClassId) (ad : Nat → Nat) (n : Nat) (x : Nat → Nat → Int32) (b : Int32) (w : Int32) (hn : n < 24) : Met l yX0_append wsX0_append ({ frames := 0, cells := 0, slots := 0, locals := 0 }) (va_Pc [.ref (ad 1), .int b, .int w] (cX D cI cA ad n x)) (qW D ad (cF cI cA ad (n + 1) (appE x n b w)) 46 (some (.int (nI n)))) 0 0 (wA ad 46) := by
  refine c_ofW (cc := cX0_append) (maxL := 5) (ret := .int) (by decide) rfl rfl (Nat.le_of_ble_eq_true rfl) ?_
  intro p e s m av below meth cd Q hx hb hF hP hK hD hT hret ls hl
  have hown : s.vm.findClass RX0 = some m.cls := hF.2.2.2.1
  have hF : CallFix p m cd cX0_append 5 s av wsX0_append RX0 := hF
  have hts := hF.2.2.2.2
  have hl : lv_has ls 5 [(0, .ref (ad 1)), (1, .int b), (2, .int w)] := hl
  obtain ⟨H, eH⟩ : ∃ H9 : Heap, H9 = s.heap := ⟨_, rfl⟩
  obtain ⟨locs, eL⟩ : ∃ L9 : List Loc, L9 = [] := ⟨_, rfl⟩
  have hS : sS (wA ad 46) s.heap H locs := by rw [eH, eL]; exact sS.rf
  rw [← eH] at hP
  suffices hgo : W p l e ({ frames := 0, cells := 0, slots := 0, locals := 0 }) s m av below meth cd H locs 0 0 Q (F0 m 0 ls []) by rw [eH, eL] at hgo; exact hgo
  clear eH eL
  refine lv_aload_n hx hb dX0_append_0 rfl (lv_at hl 0 rfl) ?_
  refine r_get (C := RX0) (T := TX0) (M := 5) (index := 26) (fd := "count") (fo := "I") hx hb hts (by decide +kernel) hown hK hP 1 (by decide) cF_1 rfl 4 (by decide) rfl (by decide +kernel) rfl dX0_append_1 ?_
  refine lv_istore_n (lv' := [(3, .int (nI n)), (0, .ref (ad 1)), (1, .int b), (2, .int w)]) hx hb dX0_append_4 rfl hl (by decide) rfl (fun ls hl => ?_)
  refine lv_aload_n hx hb dX0_append_5 rfl (lv_at hl 1 rfl) ?_
  refine r_get (C := RX0) (T := TX0) (M := 5) (index := 9) (fd := "books") (fo := "[I") hx hb hts (by decide +kernel) hown hK hP 1 (by decide) cF_1 rfl 0 (by decide) rfl (by decide +kernel) rfl dX0_append_6 ?_
  refine lv_iload_n hx hb dX0_append_9 rfl (lv_at hl 0 rfl) ?_
  refine lv_iload_n hx hb dX0_append_10 rfl (lv_at hl 2 rfl) ?_
  refine r_iast (f' := cF cI cA ad n (up2 x 4 n b)) hx hb hK hP hD hS 4 0 (by omega) (cF_a (by omega)) rfl (i := n) (by omega) (by decide) (cF_up (by omega)) dX0_append_11 (fun H locs hP hS => ?_)
  refine lv_iconst (v := nI 0) hx hb dX0_append_12 (by decide) ?_
  refine lv_istore (lv' := [(4, .int (nI 0)), (3, .int (nI n)), (0, .ref (ad 1)), (1, .int b), (2, .int w)]) hx hb dX0_append_13 hl (by decide) rfl (fun ls hl => ?_)
  refine lv_iload hx hb dX0_append_15 (lv_at hl 0 rfl) ?_
  refine lv_iconst (v := nI 3) hx hb dX0_append_17 (by decide) ?_
  refine r_cgeN (a := 0) (b := 3) (tgt := 37) hx hb (by omega) (by omega) dX0_append_18 (by decide) (fun h => absurd h (by omega)) (fun _ => ?_)
  refine lv_aload_n hx hb dX0_append_21 rfl (lv_at hl 2 rfl) ?_
  refine r_get (C := RX0) (T := TX0) (M := 5) (index := 17) (fd := "names") (fo := "[[I") hx hb hts (by decide +kernel) hown hK hP 1 (by decide) cF_1 rfl 1 (by decide) rfl (by decide +kernel) rfl dX0_append_22 ?_
  refine lv_iload hx hb dX0_append_25 (lv_at hl 0 rfl) ?_
  refine r_aald (g := fun j => j + 13) hx hb hK hP 5 1 (by decide) cF_5 rfl (i := 0) (by omega) (by decide) dX0_append_27 ?_
  refine lv_iload_n hx hb dX0_append_28 rfl (lv_at hl 1 rfl) ?_
  refine lv_iload_n hx hb dX0_append_29 rfl (lv_at hl 4 rfl) ?_
  refine r_iast (f' := cF cI cA ad n (up2 (up2 x 4 n b) 13 n w)) hx hb hK hP hD hS 13 0 (by omega) (cF_a (by omega)) rfl (i := n) (by omega) (by decide) (cF_up (by omega)) dX0_append_30 (fun H locs hP hS => ?_)
  refine r_iincN (k := 0) (a := 0) (d := 1) (r := 1) (lv' := [(4, .int (nI 1)), (3, .int (nI n)), (0, .ref (ad 1)), (1, .int b), (2, .int w)]) hx hb dX0_append_31 hl rfl (by omega) (by decide) rfl (fun ls hl => ?_)
  refine lv_goto (tgt := 15) hx hb dX0_append_34 (by decide) ?_
  refine lv_iload hx hb dX0_append_15 (lv_at hl 0 rfl) ?_
  refine lv_iconst (v := nI 3) hx hb dX0_append_17 (by decide) ?_
  refine r_cgeN (a := 1) (b := 3) (tgt := 37) hx hb (by omega) (by omega) dX0_append_18 (by decide) (fun h => absurd h (by omega)) (fun _ => ?_)
  refine lv_aload_n hx hb dX0_append_21 rfl (lv_at hl 2 rfl) ?_
  refine r_get (C := RX0) (T := TX0) (M := 5) (index := 17) (fd := "names") (fo := "[[I") hx hb hts (by decide +kernel) hown hK hP 1 (by decide) cF_1 rfl 1 (by decide) rfl (by decide +kernel) rfl dX0_append_22 ?_
  refine lv_iload hx hb dX0_append_25 (lv_at hl 0 rfl) ?_
  refine r_aald (g := fun j => j + 13) hx hb hK hP 5 1 (by decide) cF_5 rfl (i := 1) (by omega) (by decide) dX0_append_27 ?_
  refine lv_iload_n hx hb dX0_append_28 rfl (lv_at hl 1 rfl) ?_
  refine lv_iload_n hx hb dX0_append_29 rfl (lv_at hl 4 rfl) ?_
  refine r_iast (f' := cF cI cA ad n (up2 (up2 (up2 x 4 n b) 13 n w) 14 n w)) hx hb hK hP hD hS 14 0 (by omega) (cF_a (by omega)) rfl (i := n) (by omega) (by decide) (cF_up (by omega)) dX0_append_30 (fun H locs hP hS => ?_)
  refine r_iincN (k := 0) (a := 1) (d := 1) (r := 2) (lv' := [(4, .int (nI 2)), (3, .int (nI n)), (0, .ref (ad 1)), (1, .int b), (2, .int w)]) hx hb dX0_append_31 hl rfl (by omega) (by decide) rfl (fun ls hl => ?_)
  refine lv_goto (tgt := 15) hx hb dX0_append_34 (by decide) ?_
  refine lv_iload hx hb dX0_append_15 (lv_at hl 0 rfl) ?_
  refine lv_iconst (v := nI 3) hx hb dX0_append_17 (by decide) ?_
  refine r_cgeN (a := 2) (b := 3) (tgt := 37) hx hb (by omega) (by omega) dX0_append_18 (by decide) (fun h => absurd h (by omega)) (fun _ => ?_)
  refine lv_aload_n hx hb dX0_append_21 rfl (lv_at hl 2 rfl) ?_
  refine r_get (C := RX0) (T := TX0) (M := 5) (index := 17) (fd := "names") (fo := "[[I") hx hb hts (by decide +kernel) hown hK hP 1 (by decide) cF_1 rfl 1 (by decide) rfl (by decide +kernel) rfl dX0_append_22 ?_
  refine lv_iload hx hb dX0_append_25 (lv_at hl 0 rfl) ?_
  refine r_aald (g := fun j => j + 13) hx hb hK hP 5 1 (by decide) cF_5 rfl (i := 2) (by omega) (by decide) dX0_append_27 ?_
  refine lv_iload_n hx hb dX0_append_28 rfl (lv_at hl 1 rfl) ?_
  refine lv_iload_n hx hb dX0_append_29 rfl (lv_at hl 4 rfl) ?_
  refine r_iast (f' := cF cI cA ad n (up2 (up2 (up2 (up2 x 4 n b) 13 n w) 14 n w) 15 n w)) hx hb hK hP hD hS 15 0 (by omega) (cF_a (by omega)) rfl (i := n) (by omega) (by decide) (cF_up (by omega)) dX0_append_30 (fun H locs hP hS => ?_)
  refine r_iincN (k := 0) (a := 2) (d := 1) (r := 3) (lv' := [(4, .int (nI 3)), (3, .int (nI n)), (0, .ref (ad 1)), (1, .int b), (2, .int w)]) hx hb dX0_append_31 hl rfl (by omega) (by decide) rfl (fun ls hl => ?_)
  refine lv_goto (tgt := 15) hx hb dX0_append_34 (by decide) ?_
  refine lv_iload hx hb dX0_append_15 (lv_at hl 0 rfl) ?_
  refine lv_iconst (v := nI 3) hx hb dX0_append_17 (by decide) ?_
  refine r_cgeN (a := 3) (b := 3) (tgt := 37) hx hb (by omega) (by omega) dX0_append_18 (by decide) (fun _ => ?_) (fun h => absurd h (by omega))
  refine lv_aload_n hx hb dX0_append_37 rfl (lv_at hl 2 rfl) ?_
  refine lv_dup hx hb dX0_append_38 rfl ?_
  refine r_get (C := RX0) (T := TX0) (M := 5) (index := 26) (fd := "count") (fo := "I") hx hb hts (by decide +kernel) hown hK hP 1 (by decide) cF_1 rfl 4 (by decide) rfl (by decide +kernel) rfl dX0_append_39 ?_
  refine lv_iconst (v := nI 1) hx hb dX0_append_42 (by decide) ?_
  refine r_addN (a := n) (b := 1) (r := n + 1) hx hb dX0_append_43 (by omega) ?_
  refine r_put (C := RX0) (T := TX0) (M := 5) (index := 26) (fd := "count") (f' := cF cI cA ad (n + 1) (up2 (up2 (up2 (up2 x 4 n b) 13 n w) 14 n w) 15 n w)) hx hb hts (by decide +kernel) tyX0 tyX0_ok nmX0 hown hK hP hD hS 1 (by decide) cF_1 rfl 4 (by decide) rfl (by decide +kernel) (Nat.le_of_ble_eq_true rfl) cF_cnt dX0_append_44 (fun H locs hP hS => ?_)
  refine lv_iload_n hx hb dX0_append_47 rfl (lv_at hl 1 rfl) ?_
  exact hret _ _ _ _ _ _ hP hS dX0_append_48 (rfl) (rfl)
