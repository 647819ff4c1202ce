set_option maxHeartbeats 4000000 in
set_option maxRecDepth 100000 in
theorem c_X1_areLinked (l : Launch) (D : va_G) (cI : ClassId) (cA : ClassId) (ad : Nat → Nat) (n : Nat) (x : Nat → Nat → Int32) (c : Nat) (d : Nat) (hc : c < 24) : Met l yX1_areLinked wsX1_areLinked ({ frames := 1, cells := 0, slots := 0, locals := 21 }) (va_Pc [.ref (ad 2), .int (nI c), .int (nI d)] (cX D cI cA ad n x)) (qR (some (.int (bI (hasB (x 8 c) d))))) 0 0 nF := by
  refine c_ofR (cc := cX1_areLinked) (maxL := 3) (ret := .boolean) (by decide) rfl (nar_bI _) (Nat.le_of_ble_eq_true rfl) ?_
  intro p e s m av below meth cd Q hx hb hF hP hK hD hT hret ls hl
  have hown : s.vm.findClass RX1 = some m.cls := hF.2.2.2.1
  have hF : CallFix p m cd cX1_areLinked 3 s av wsX1_areLinked RX1 := hF
  have hts := hF.2.2.2.2
  have hl : lv_has ls 3 [(0, .ref (ad 2)), (1, .int (nI c)), (2, .int (nI d))] := hl
  refine lv_aload_n hx hb dX1_areLinked_0 rfl (lv_at hl 0 rfl) ?_
  refine r_get (C := RX1) (T := TX1) (M := 2) (index := 9) (fd := "linked") (fo := "[I") hx hb hts (by decide +kernel) hown hK hP 2 (by decide) cF_2 rfl 0 (by decide) rfl (by decide +kernel) rfl dX1_areLinked_1 ?_
  refine lv_iload_n hx hb dX1_areLinked_4 rfl (lv_at hl 1 rfl) ?_
  refine r_iald hx hb hK hP 8 0 (by omega) (cF_a (by omega)) rfl (i := c) (by omega) (by decide) dX1_areLinked_5 ?_
  refine lv_iload_n hx hb dX1_areLinked_6 rfl (lv_at hl 2 rfl) ?_
  refine k_Ri (va_runSN (As := [.int (x 8 c), .int (nI d)]) (rest := []) hF (c_X3_has l d (x 8 c)) ⟨va_cnB 2 hts gX1_areLinked_X3_has_n18 rfl rfl rfl hT.2.2.1 (hts (.initialized RX3) (by decide +kernel)) (by decide +kernel) ⟨(Nat.le_of_ble_eq_true rfl), (Nat.le_of_ble_eq_true rfl)⟩, hts (.static yX3_has) (by decide +kernel), trivial⟩ k_preS rfl rfl hl.1 rfl (lv_room (Nat.le_of_ble_eq_true rfl)) dX1_areLinked_7 ⟨Nat.zero_le _, Nat.zero_le _⟩) ?_
  exact hret _ _ _ dX1_areLinked_10 (rfl)
set_option maxHeartbeats 4000000 in
set_option maxRecDepth 100000 in
theorem c_X1_areTogether (l : Launch) (D : va_G) (cI : ClassId) (cA : ClassId) (ad : Nat → Nat) (n : Nat) (x : Nat → Nat → Int32) (c : Nat) (d : Nat) (hc : c < 24) : Met l yX1_areTogether wsX1_areTogether ({ frames := 1, cells := 0, slots := 0, locals := 21 }) (va_Pc [.ref (ad 2), .int (nI c), .int (nI d)] (cX D cI cA ad n x)) (qR (some (.int (bI (hasB (x 9 c) d))))) 0 0 nF := by
  refine c_ofR (cc := cX1_areTogether) (maxL := 3) (ret := .boolean) (by decide) rfl (nar_bI _) (Nat.le_of_ble_eq_true rfl) ?_
  intro p e s m av below meth cd Q hx hb hF hP hK hD hT hret ls hl
  have hown : s.vm.findClass RX1 = some m.cls := hF.2.2.2.1
  have hF : CallFix p m cd cX1_areTogether 3 s av wsX1_areTogether RX1 := hF
  have hts := hF.2.2.2.2
  have hl : lv_has ls 3 [(0, .ref (ad 2)), (1, .int (nI c)), (2, .int (nI d))] := hl
  refine lv_aload_n hx hb dX1_areTogether_0 rfl (lv_at hl 0 rfl) ?_
  refine r_get (C := RX1) (T := TX1) (M := 2) (index := 15) (fd := "groups") (fo := "[I") hx hb hts (by decide +kernel) hown hK hP 2 (by decide) cF_2 rfl 1 (by decide) rfl (by decide +kernel) rfl dX1_areTogether_1 ?_
  refine lv_iload_n hx hb dX1_areTogether_4 rfl (lv_at hl 1 rfl) ?_
  refine r_iald hx hb hK hP 9 0 (by omega) (cF_a (by omega)) rfl (i := c) (by omega) (by decide) dX1_areTogether_5 ?_
  refine lv_iload_n hx hb dX1_areTogether_6 rfl (lv_at hl 2 rfl) ?_
  refine k_Ri (va_runSN (As := [.int (x 9 c), .int (nI d)]) (rest := []) hF (c_X3_has l d (x 9 c)) ⟨va_cnB 2 hts gX1_areTogether_X3_has_n18 rfl rfl rfl hT.2.2.1 (hts (.initialized RX3) (by decide +kernel)) (by decide +kernel) ⟨(Nat.le_of_ble_eq_true rfl), (Nat.le_of_ble_eq_true rfl)⟩, hts (.static yX3_has) (by decide +kernel), trivial⟩ k_preS rfl rfl hl.1 rfl (lv_room (Nat.le_of_ble_eq_true rfl)) dX1_areTogether_7 ⟨Nat.zero_le _, Nat.zero_le _⟩) ?_
  exact hret _ _ _ dX1_areTogether_10 (rfl)
set_option maxHeartbeats 4000000 in
set_option maxRecDepth 100000 in
theorem c_X1_groupOf (l : Launch) (D : va_G) (cI : ClassId) (cA : ClassId) (ad : Nat → Nat) (n : Nat) (x : Nat → Nat → Int32) (c : Nat) (hc : c < 24) : Met l yX1_groupOf wsX1_groupOf ({ frames := 0, cells := 0, slots := 0, locals := 0 }) (va_Pc [.ref (ad 2), .int (nI c)] (cX D cI cA ad n x)) (qR (some (.int (x 9 c)))) 0 0 nF := by
  refine c_ofR (cc := cX1_groupOf) (maxL := 2) (ret := .int) (by decide) rfl rfl (Nat.le_of_ble_eq_true rfl) ?_
  intro p e s m av below meth cd Q hx hb hF hP hK hD hT hret ls hl
  have hown : s.vm.findClass RX1 = some m.cls := hF.2.2.2.1
  have hF : CallFix p m cd cX1_groupOf 2 s av wsX1_groupOf RX1 := hF
  have hts := hF.2.2.2.2
  have hl : lv_has ls 2 [(0, .ref (ad 2)), (1, .int (nI c))] := hl
  refine lv_aload_n hx hb dX1_groupOf_0 rfl (lv_at hl 0 rfl) ?_
  refine r_get (C := RX1) (T := TX1) (M := 2) (index := 15) (fd := "groups") (fo := "[I") hx hb hts (by decide +kernel) hown hK hP 2 (by decide) cF_2 rfl 1 (by decide) rfl (by decide +kernel) rfl dX1_groupOf_1 ?_
  refine lv_iload_n hx hb dX1_groupOf_4 rfl (lv_at hl 1 rfl) ?_
  refine r_iald hx hb hK hP 9 0 (by omega) (cF_a (by omega)) rfl (i := c) (by omega) (by decide) dX1_groupOf_5 ?_
  exact hret _ _ _ dX1_groupOf_6 (rfl)
set_option maxHeartbeats 4000000 in
set_option maxRecDepth 100000 in
theorem c_X1_isLowestOfGroup (l : Launch) (D : va_G) (cI : ClassId) (cA : ClassId) (ad : Nat → Nat) (n : Nat) (x : Nat → Nat → Int32) (c : Nat) (hc : c < 24) : Met l yX1_isLowestOfGroup wsX1_isLowestOfGroup ({ frames := 0, cells := 0, slots := 0, locals := 0 }) (va_Pc [.ref (ad 2), .int (nI c)] (cX D cI cA ad n x)) (qR (some (.int (bI (lowB (x 9 c) c))))) 0 0 nF := by
  refine c_ofR (cc := cX1_isLowestOfGroup) (maxL := 3) (ret := .boolean) (by decide) rfl (nar_bI _) (Nat.le_of_ble_eq_true rfl) ?_
  intro p e s m av below meth cd Q hx hb hF hP hK hD hT hret ls hl
  have hown : s.vm.findClass RX1 = some m.cls := hF.2.2.2.1
  have hF : CallFix p m cd cX1_isLowestOfGroup 3 s av wsX1_isLowestOfGroup RX1 := hF
  have hts := hF.2.2.2.2
  have hl : lv_has ls 3 [(0, .ref (ad 2)), (1, .int (nI c))] := hl
  refine lv_iconst (v := nI 1) hx hb dX1_isLowestOfGroup_0 (by decide) ?_
  refine lv_iload_n hx hb dX1_isLowestOfGroup_1 rfl (lv_at hl 1 rfl) ?_
  refine r_bit hx hb dX1_isLowestOfGroup_2 ?_
  refine lv_iconst (v := nI 1) hx hb dX1_isLowestOfGroup_3 (by decide) ?_
  refine lv_isub hx hb dX1_isLowestOfGroup_4 ?_
  refine lv_istore_n (lv' := [(2, .int ((bit c) - (nI 1))), (0, .ref (ad 2)), (1, .int (nI c))]) hx hb dX1_isLowestOfGroup_5 rfl hl (by decide) rfl (fun ls hl => ?_)
  refine lv_aload_n hx hb dX1_isLowestOfGroup_6 rfl (lv_at hl 1 rfl) ?_
  refine r_get (C := RX1) (T := TX1) (M := 2) (index := 15) (fd := "groups") (fo := "[I") hx hb hts (by decide +kernel) hown hK hP 2 (by decide) cF_2 rfl 1 (by decide) rfl (by decide +kernel) rfl dX1_isLowestOfGroup_7 ?_
  refine lv_iload_n hx hb dX1_isLowestOfGroup_10 rfl (lv_at hl 2 rfl) ?_
  refine r_iald hx hb hK hP 9 0 (by omega) (cF_a (by omega)) rfl (i := c) (by omega) (by decide) dX1_isLowestOfGroup_11 ?_
  refine lv_iload_n hx hb dX1_isLowestOfGroup_12 rfl (lv_at hl 0 rfl) ?_
  refine lv_iand hx hb dX1_isLowestOfGroup_13 ?_
  refine lv_if_ne (tgt := 21) hx hb dX1_isLowestOfGroup_14 (by decide) (fun h14_1 => ?_) (fun h14_1 => ?_)
  · refine lv_iconst (v := nI 0) hx hb dX1_isLowestOfGroup_21 (by decide) ?_
    exact hret _ _ _ dX1_isLowestOfGroup_22 (by simp [lowB, bI, h14_1])
  · refine lv_iconst (v := nI 1) hx hb dX1_isLowestOfGroup_17 (by decide) ?_
    refine lv_goto (tgt := 22) hx hb dX1_isLowestOfGroup_18 (by decide) ?_
    exact hret _ _ _ dX1_isLowestOfGroup_22 (by simp [lowB, bI, h14_1])
set_option maxHeartbeats 4000000 in
set_option maxRecDepth 100000 in
theorem c_X1_linkedToAny (l : Launch) (D : va_G) (cI : ClassId) (cA : ClassId) (ad : Nat → Nat) (n : Nat) (x : Nat → Nat → Int32) (s9 : Int32) : Met l yX1_linkedToAny wsX1_linkedToAny ({ frames := 1, cells := 0, slots := 0, locals := 21 }) (va_Pc [.ref (ad 2), .int s9] (cX D cI cA ad n x)) (qR (some (.int (orF s9 (x 8) 24)))) 0 0 nF := by
  refine c_ofR (cc := cX1_linkedToAny) (maxL := 4) (ret := .int) (by decide) rfl rfl (Nat.le_of_ble_eq_true rfl) ?_
  intro p e s m av below meth cd Q hx hb hF hP hK hD hT hret ls hl
  have hown : s.vm.findClass RX1 = some m.cls := hF.2.2.2.1
  have hF : CallFix p m cd cX1_linkedToAny 4 s av wsX1_linkedToAny RX1 := hF
  have hts := hF.2.2.2.2
  have hl : lv_has ls 4 [(0, .ref (ad 2)), (1, .int s9)] := hl
  refine lv_iconst (v := nI 0) hx hb dX1_linkedToAny_0 (by decide) ?_
  refine lv_istore_n (lv' := [(2, .int (nI 0)), (0, .ref (ad 2)), (1, .int s9)]) hx hb dX1_linkedToAny_1 rfl hl (by decide) rfl (fun ls hl => ?_)
  refine lv_iconst (v := nI 0) hx hb dX1_linkedToAny_2 (by decide) ?_
  refine lv_istore_n (lv' := [(3, .int (nI 0)), (2, .int (nI 0)), (0, .ref (ad 2)), (1, .int s9)]) hx hb dX1_linkedToAny_3 rfl hl (by decide) rfl (fun ls hl => ?_)
  have hL4 : ∀ i : Nat, i ≤ 24 → ∀ ls : Array Slot, lv_has ls 4 [(0, .ref (ad 2)), (1, .int s9), (2, .int (orF s9 (x 8) i)), (3, .int (nI i))] → W p l e ({ frames := 1, cells := 0, slots := 0, locals := 21 }) s m av below meth cd s.heap [] 0 0 Q (F0 m 4 ls []) := by
    refine down (24) ?_ ?_
    · intro ls hl
      refine lv_iload_n hx hb dX1_linkedToAny_4 rfl (lv_at hl 3 rfl) ?_
      refine lv_bipush (v := nI 24) hx hb dX1_linkedToAny_5 (by decide) ?_
      refine r_cgeN (a := 24) (b := 24) (tgt := 33) hx hb (by omega) (by omega) dX1_linkedToAny_7 (by decide) (fun _ => ?_) (fun h => absurd h (by omega))
      refine lv_iload_n hx hb dX1_linkedToAny_33 rfl (lv_at hl 2 rfl) ?_
      exact hret _ _ _ dX1_linkedToAny_34 (rfl)
    · intro i hi4 ih4 ls hl
      refine lv_iload_n hx hb dX1_linkedToAny_4 rfl (lv_at hl 3 rfl) ?_
      refine lv_bipush (v := nI 24) hx hb dX1_linkedToAny_5 (by decide) ?_
      refine r_cgeN (a := i) (b := 24) (tgt := 33) hx hb (by omega) (by omega) dX1_linkedToAny_7 (by decide) (fun h => absurd h (by omega)) (fun _ => ?_)
      refine lv_iload_n hx hb dX1_linkedToAny_10 rfl (lv_at hl 1 rfl) ?_
      refine lv_iload_n hx hb dX1_linkedToAny_11 rfl (lv_at hl 3 rfl) ?_
      refine k_Ri (va_runSN (As := [.int s9, .int (nI i)]) (rest := []) hF (c_X3_has l i s9) ⟨va_cnB 2 hts gX1_linkedToAny_X3_has_n18 rfl rfl rfl hT.2.2.1 (hts (.initialized RX3) (by decide +kernel)) (by decide +kernel) ⟨(Nat.le_of_ble_eq_true rfl), (Nat.le_of_ble_eq_true rfl)⟩, hts (.static yX3_has) (by decide +kernel), trivial⟩ k_preS rfl rfl hl.1 rfl (lv_room (Nat.le_of_ble_eq_true rfl)) dX1_linkedToAny_12 ⟨Nat.zero_le _, Nat.zero_le _⟩) ?_
      refine r_ifeqB (b := hasB s9 i) (tgt := 27) hx hb dX1_linkedToAny_15 (by decide) (fun h15_3 => ?_) (fun h15_3 => ?_)
      · refine r_iincN (k := 3) (a := i) (d := 1) (r := i + 1) (lv' := [(3, .int (nI (i + 1))), (0, .ref (ad 2)), (1, .int s9), (2, .int (orF s9 (x 8) i))]) hx hb dX1_linkedToAny_27 hl rfl (by omega) (by decide) rfl (fun ls hl => ?_)
        refine lv_goto (tgt := 4) hx hb dX1_linkedToAny_30 (by decide) ?_
        exact ih4 _ (lv_cast (lv_sub (l' := [(0, .ref (ad 2)), (1, .int s9), (2, .int (orF s9 (x 8) i)), (3, .int (nI (i + 1)))]) hl [1, 2, 3, 0] rfl) (by rw [show (orF s9 (x 8) (i + 1) : Int32) = orF s9 (x 8) i from by simp [orF, h15_3]]))
      · refine lv_iload_n hx hb dX1_linkedToAny_18 rfl (lv_at hl 2 rfl) ?_
        refine lv_aload_n hx hb dX1_linkedToAny_19 rfl (lv_at hl 0 rfl) ?_
        refine r_get (C := RX1) (T := TX1) (M := 2) (index := 9) (fd := "linked") (fo := "[I") hx hb hts (by decide +kernel) hown hK hP 2 (by decide) cF_2 rfl 0 (by decide) rfl (by decide +kernel) rfl dX1_linkedToAny_20 ?_
        refine lv_iload_n hx hb dX1_linkedToAny_23 rfl (lv_at hl 3 rfl) ?_
        refine r_iald hx hb hK hP 8 0 (by omega) (cF_a (by omega)) rfl (i := i) (by omega) (by decide) dX1_linkedToAny_24 ?_
        refine lv_ior hx hb dX1_linkedToAny_25 ?_
        refine lv_istore_n (lv' := [(2, .int ((orF s9 (x 8) i) ||| (x 8 i))), (0, .ref (ad 2)), (1, .int s9), (3, .int (nI i))]) hx hb dX1_linkedToAny_26 rfl hl (by decide) rfl (fun ls hl => ?_)
        refine r_iincN (k := 3) (a := i) (d := 1) (r := i + 1) (lv' := [(3, .int (nI (i + 1))), (2, .int ((orF s9 (x 8) i) ||| (x 8 i))), (0, .ref (ad 2)), (1, .int s9)]) hx hb dX1_linkedToAny_27 hl rfl (by omega) (by decide) rfl (fun ls hl => ?_)
        refine lv_goto (tgt := 4) hx hb dX1_linkedToAny_30 (by decide) ?_
        exact ih4 _ (lv_cast (lv_sub (l' := [(0, .ref (ad 2)), (1, .int s9), (2, .int ((orF s9 (x 8) i) ||| (x 8 i))), (3, .int (nI (i + 1)))]) hl [2, 3, 1, 0] rfl) (by rw [show (orF s9 (x 8) (i + 1) : Int32) = (orF s9 (x 8) i) ||| (x 8 i) from by simp [orF, h15_3]]))
  exact hL4 0 (Nat.zero_le _) _ (lv_cast (lv_sub (l' := [(0, .ref (ad 2)), (1, .int s9), (2, .int (nI 0)), (3, .int (nI 0))]) hl [2, 3, 1, 0] rfl) (by rw [show (orF s9 (x 8) 0 : Int32) = nI 0 from rfl]))
set_option maxHeartbeats 4000000 in
set_option maxRecDepth 100000 in
theorem c_X1_reachedFrom (l : Launch) (D : va_G) (cI : ClassId) (cA : ClassId) (ad : Nat → Nat) (n : Nat) (x : Nat → Nat → Int32) (c : Nat) (hc : c < 24) : Met l yX1_reachedFrom wsX1_reachedFrom ({ frames := 2, cells := 0, slots := 0, locals := 44 }) (va_Pc [.ref (ad 2), .int (nI c)] (cX D cI cA ad n x)) (qR (some (.int (reaF (x 8) c 24)))) 0 0 nF := by
  refine c_ofR (cc := cX1_reachedFrom) (maxL := 4) (ret := .int) (by decide) rfl rfl (Nat.le_of_ble_eq_true rfl) ?_
  intro p e s m av below meth cd Q hx hb hF hP hK hD hT hret ls hl
  have hown : s.vm.findClass RX1 = some m.cls := hF.2.2.2.1
  have hF : CallFix p m cd cX1_reachedFrom 4 s av wsX1_reachedFrom RX1 := hF
  have hts := hF.2.2.2.2
  have hl : lv_has ls 4 [(0, .ref (ad 2)), (1, .int (nI c))] := hl
  refine lv_iconst (v := nI 1) hx hb dX1_reachedFrom_0 (by decide) ?_
  refine lv_iload_n hx hb dX1_reachedFrom_1 rfl (lv_at hl 1 rfl) ?_
  refine r_bit hx hb dX1_reachedFrom_2 ?_
  refine lv_istore_n (lv' := [(2, .int (bit c)), (0, .ref (ad 2)), (1, .int (nI c))]) hx hb dX1_reachedFrom_3 rfl hl (by decide) rfl (fun ls hl => ?_)
  refine lv_iconst (v := nI 0) hx hb dX1_reachedFrom_4 (by decide) ?_
  refine lv_istore_n (lv' := [(3, .int (nI 0)), (2, .int (bit c)), (0, .ref (ad 2)), (1, .int (nI c))]) hx hb dX1_reachedFrom_5 rfl hl (by decide) rfl (fun ls hl => ?_)
  have hL6 : ∀ i : Nat, i ≤ 24 → ∀ ls : Array Slot, lv_has ls 4 [(0, .ref (ad 2)), (2, .int (reaF (x 8) c i)), (3, .int (nI i))] → W p l e ({ frames := 2, cells := 0, slots := 0, locals := 44 }) s m av below meth cd s.heap [] 0 0 Q (F0 m 6 ls []) := by
    refine down (24) ?_ ?_
    · intro ls hl
      refine lv_iload_n hx hb dX1_reachedFrom_6 rfl (lv_at hl 2 rfl) ?_
      refine lv_bipush (v := nI 24) hx hb dX1_reachedFrom_7 (by decide) ?_
      refine r_cgeN (a := 24) (b := 24) (tgt := 26) hx hb (by omega) (by omega) dX1_reachedFrom_9 (by decide) (fun _ => ?_) (fun h => absurd h (by omega))
      refine lv_iload_n hx hb dX1_reachedFrom_26 rfl (lv_at hl 1 rfl) ?_
      exact hret _ _ _ dX1_reachedFrom_27 (rfl)
    · intro i hi6 ih6 ls hl
      refine lv_iload_n hx hb dX1_reachedFrom_6 rfl (lv_at hl 2 rfl) ?_
      refine lv_bipush (v := nI 24) hx hb dX1_reachedFrom_7 (by decide) ?_
      refine r_cgeN (a := i) (b := 24) (tgt := 26) hx hb (by omega) (by omega) dX1_reachedFrom_9 (by decide) (fun h => absurd h (by omega)) (fun _ => ?_)
      refine lv_iload_n hx hb dX1_reachedFrom_12 rfl (lv_at hl 1 rfl) ?_
      refine lv_aload_n hx hb dX1_reachedFrom_13 rfl (lv_at hl 0 rfl) ?_
      refine lv_iload_n hx hb dX1_reachedFrom_14 rfl (lv_at hl 1 rfl) ?_
      refine k_Ri (va_runV (As := [.int (reaF (x 8) c i)]) (rest := [.int (reaF (x 8) c i)]) hF (c_X1_linkedToAny l D cI cA ad n x (reaF (x 8) c i)) (cwV 1 hts gX1_reachedFrom_X1_linkedToAny rfl rfl rfl (by decide +kernel) ⟨(Nat.le_of_ble_eq_true rfl), (Nat.le_of_ble_eq_true rfl)⟩) (k_pre hP hK hD hT (k := 2) (by decide) cF_2 rfl) rfl rfl hl.1 rfl (lv_room (Nat.le_of_ble_eq_true rfl)) dX1_reachedFrom_15 ⟨Nat.zero_le _, Nat.zero_le _⟩) ?_
      refine lv_ior hx hb dX1_reachedFrom_18 ?_
      refine lv_istore_n (lv' := [(2, .int ((reaF (x 8) c i) ||| (orF (reaF (x 8) c i) (x 8) 24))), (0, .ref (ad 2)), (3, .int (nI i))]) hx hb dX1_reachedFrom_19 rfl hl (by decide) rfl (fun ls hl => ?_)
      refine r_iincN (k := 2) (a := i) (d := 1) (r := i + 1) (lv' := [(3, .int (nI (i + 1))), (2, .int ((reaF (x 8) c i) ||| (orF (reaF (x 8) c i) (x 8) 24))), (0, .ref (ad 2))]) hx hb dX1_reachedFrom_20 hl rfl (by omega) (by decide) rfl (fun ls hl => ?_)
      refine lv_goto (tgt := 6) hx hb dX1_reachedFrom_23 (by decide) ?_
      exact ih6 _ (lv_cast (lv_sub (l' := [(0, .ref (ad 2)), (2, .int ((reaF (x 8) c i) ||| (orF (reaF (x 8) c i) (x 8) 24))), (3, .int (nI (i + 1)))]) hl [2, 1, 0] rfl) (by rw [show (reaF (x 8) c (i + 1) : Int32) = (reaF (x 8) c i) ||| (orF (reaF (x 8) c i) (x 8) 24) from rfl]))
  exact hL6 0 (Nat.zero_le _) _ (lv_cast (lv_sub (l' := [(0, .ref (ad 2)), (2, .int (bit c)), (3, .int (nI 0))]) hl [2, 1, 0] rfl) (by rw [show (reaF (x 8) c 0 : Int32) = bit c from rfl]))
set_option maxHeartbeats 4000000 in
set_option maxRecDepth 100000 in
theorem c_X1_putGroup (l : Launch) (D : va_G) (cI : ClassId) (cA : ClassId) (ad : Nat → Nat) (n : Nat) (x : Nat → Nat → Int32) (g : Int32) : Met l yX1_putGroup wsX1_putGroup ({ frames := 1, cells := 0, slots := 0, locals := 21 }) (va_Pc [.ref (ad 2), .int g] (cX D cI cA ad n x)) (qW D ad (cF cI cA ad n (pgF x g 24)) 46 none) 0 0 (wA ad 46) := by
  refine c_ofV (cc := cX1_putGroup) (maxL := 3) (by decide) rfl (Nat.le_of_ble_eq_true rfl) ?_
  intro p e s m av below meth cd Q hx hb hF hP hK hD hT hret ls hl
  have hown : s.vm.findClass RX1 = some m.cls := hF.2.2.2.1
  have hF : CallFix p m cd cX1_putGroup 3 s av wsX1_putGroup RX1 := hF
  have hts := hF.2.2.2.2
  have hl : lv_has ls 3 [(0, .ref (ad 2)), (1, .int g)] := hl
  obtain ⟨H, eH⟩ : ∃ H9 : Heap, H9 = s.heap := ⟨_, rfl⟩
  obtain ⟨locs, eL⟩ : ∃ L9 : List Loc, L9 = [] := ⟨_, rfl⟩
  have hS : sS (wA ad 46) s.heap H locs := by rw [eH, eL]; exact sS.rf
  rw [← eH] at hP
  suffices hgo : W p l e ({ frames := 1, cells := 0, slots := 0, locals := 21 }) s m av below meth cd H locs 0 0 Q (F0 m 0 ls []) by rw [eH, eL] at hgo; exact hgo
  clear eH eL
  refine lv_iconst (v := nI 0) hx hb dX1_putGroup_0 (by decide) ?_
  refine lv_istore_n (lv' := [(2, .int (nI 0)), (0, .ref (ad 2)), (1, .int g)]) hx hb dX1_putGroup_1 rfl hl (by decide) rfl (fun ls hl => ?_)
  have hL2 : ∀ i : Nat, i ≤ 24 → ∀ (H : Heap) (locs : List Loc), va_P D vwCl (wl ad (cF cI cA ad n (pgF x g i)) 46) H → sS (wA ad 46) s.heap H locs → ∀ ls : Array Slot, lv_has ls 3 [(0, .ref (ad 2)), (1, .int g), (2, .int (nI i))] → W p l e ({ frames := 1, cells := 0, slots := 0, locals := 21 }) s m av below meth cd H locs 0 0 Q (F0 m 2 ls []) := by
    refine down (24) ?_ ?_
    · intro H locs hP hS ls hl
      refine lv_iload_n hx hb dX1_putGroup_2 rfl (lv_at hl 2 rfl) ?_
      refine lv_bipush (v := nI 24) hx hb dX1_putGroup_3 (by decide) ?_
      refine r_cgeN (a := 24) (b := 24) (tgt := 29) hx hb (by omega) (by omega) dX1_putGroup_5 (by decide) (fun _ => ?_) (fun h => absurd h (by omega))
      exact hret _ _ _ _ _ hP hS dX1_putGroup_29 (rfl)
    · intro i hi2 ih2 H locs hP hS ls hl
      refine lv_iload_n hx hb dX1_putGroup_2 rfl (lv_at hl 2 rfl) ?_
      refine lv_bipush (v := nI 24) hx hb dX1_putGroup_3 (by decide) ?_
      refine r_cgeN (a := i) (b := 24) (tgt := 29) hx hb (by omega) (by omega) dX1_putGroup_5 (by decide) (fun h => absurd h (by omega)) (fun _ => ?_)
      refine lv_iload_n hx hb dX1_putGroup_8 rfl (lv_at hl 1 rfl) ?_
      refine lv_iload_n hx hb dX1_putGroup_9 rfl (lv_at hl 2 rfl) ?_
      refine k_Ri (va_runSN (As := [.int g, .int (nI i)]) (rest := []) hF (c_X3_has l i g) ⟨va_cnB 2 hts gX1_putGroup_X3_has_n18 rfl rfl rfl hT.2.2.1 (hts (.initialized RX3) (by decide +kernel)) (by decide +kernel) ⟨(Nat.le_of_ble_eq_true rfl), (Nat.le_of_ble_eq_true rfl)⟩, hts (.static yX3_has) (by decide +kernel), trivial⟩ k_preS rfl rfl hl.1 rfl (lv_room (Nat.le_of_ble_eq_true rfl)) dX1_putGroup_10 ⟨Nat.zero_le _, Nat.zero_le _⟩) ?_
      refine r_ifeqB (b := hasB g i) (tgt := 23) hx hb dX1_putGroup_13 (by decide) (fun h13_3 => ?_) (fun h13_3 => ?_)
      · refine r_iincN (k := 2) (a := i) (d := 1) (r := i + 1) (lv' := [(2, .int (nI (i + 1))), (0, .ref (ad 2)), (1, .int g)]) hx hb dX1_putGroup_23 hl rfl (by omega) (by decide) rfl (fun ls hl => ?_)
        refine lv_goto (tgt := 2) hx hb dX1_putGroup_26 (by decide) ?_
        exact ih2 _ _ (by rw [show cF cI cA ad n (pgF x g (i + 1)) = cF cI cA ad n (pgF x g i) from by simp [pgF, h13_3]]; exact hP) hS _ (lv_sub hl [1, 2, 0] rfl)
      · refine lv_aload_n hx hb dX1_putGroup_16 rfl (lv_at hl 0 rfl) ?_
        refine r_get (C := RX1) (T := TX1) (M := 2) (index := 15) (fd := "groups") (fo := "[I") hx hb hts (by decide +kernel) hown hK hP 2 (by decide) cF_2 rfl 1 (by decide) rfl (by decide +kernel) rfl dX1_putGroup_17 ?_
        refine lv_iload_n hx hb dX1_putGroup_20 rfl (lv_at hl 2 rfl) ?_
        refine lv_iload_n hx hb dX1_putGroup_21 rfl (lv_at hl 1 rfl) ?_
        refine r_iast (f' := cF cI cA ad n (up2 (pgF x g i) 9 i g)) hx hb hK hP hD hS 9 0 (by omega) (cF_a (by omega)) rfl (i := i) (by omega) (by decide) (cF_up (by omega)) dX1_putGroup_22 (fun H locs hP hS => ?_)
        refine r_iincN (k := 2) (a := i) (d := 1) (r := i + 1) (lv' := [(2, .int (nI (i + 1))), (0, .ref (ad 2)), (1, .int g)]) hx hb dX1_putGroup_23 hl rfl (by omega) (by decide) rfl (fun ls hl => ?_)
        refine lv_goto (tgt := 2) hx hb dX1_putGroup_26 (by decide) ?_
        exact ih2 _ _ (by rw [show cF cI cA ad n (pgF x g (i + 1)) = cF cI cA ad n (up2 (pgF x g i) 9 i g) from by simp [pgF, h13_3]]; exact hP) hS _ (lv_sub hl [1, 2, 0] rfl)
  exact hL2 0 (Nat.zero_le _) _ _ (by rw [show cF cI cA ad n (pgF x g 0) = cF cI cA ad n x from rfl]; exact hP) hS _ (lv_sub hl [1, 2, 0] rfl)
set_option maxHeartbeats 4000000 in
set_option maxRecDepth 100000 in
theorem c_X1_connect (l : Launch) (D : va_G) (cI : ClassId) (cA : ClassId) (ad : Nat → Nat) (n : Nat) (x : Nat → Nat → Int32) (c : Nat) (d : Nat) (hc : c < 24) (hd : d < 24) : Met l yX1_connect wsX1_connect ({ frames := 2, cells := 0, slots := 0, locals := 43 }) (va_Pc [.ref (ad 2), .int (nI c), .int (nI d)] (cX D cI cA ad n x)) (qW D ad (cF cI cA ad n (conX x c d)) 46 none) 0 0 (wA ad 46) := by
  refine c_ofV (cc := cX1_connect) (maxL := 3) (by decide) rfl (Nat.le_of_ble_eq_true rfl) ?_
  intro p e s m av below meth cd Q hx hb hF hP hK hD hT hret ls hl
  have hown : s.vm.findClass RX1 = some m.cls := hF.2.2.2.1
  have hF : CallFix p m cd cX1_connect 3 s av wsX1_connect RX1 := hF
  have hts := hF.2.2.2.2
  have hl : lv_has ls 3 [(0, .ref (ad 2)), (1, .int (nI c)), (2, .int (nI d))] := hl
  obtain ⟨H, eH⟩ : ∃ H9 : Heap, H9 = s.heap := ⟨_, rfl⟩
  obtain ⟨locs, eL⟩ : ∃ L9 : List Loc, L9 = [] := ⟨_, rfl⟩
  have hS : sS (wA ad 46) s.heap H locs := by rw [eH, eL]; exact sS.rf
  rw [← eH] at hP
  suffices hgo : W p l e ({ frames := 2, cells := 0, slots := 0, locals := 43 }) s m av below meth cd H locs 0 0 Q (F0 m 0 ls []) by rw [eH, eL] at hgo; exact hgo
  clear eH eL
  refine lv_aload_n hx hb dX1_connect_0 rfl (lv_at hl 0 rfl) ?_
  refine r_get (C := RX1) (T := TX1) (M := 2) (index := 9) (fd := "linked") (fo := "[I") hx hb hts (by decide +kernel) hown hK hP 2 (by decide) cF_2 rfl 0 (by decide) rfl (by decide +kernel) rfl dX1_connect_1 ?_
  refine lv_iload_n hx hb dX1_connect_4 rfl (lv_at hl 1 rfl) ?_
  refine lv_dup2_11 hx hb dX1_connect_5 rfl rfl ?_
  refine r_iald hx hb hK hP 8 0 (by omega) (cF_a (by omega)) rfl (i := c) (by omega) (by decide) dX1_connect_6 ?_
  refine lv_iconst (v := nI 1) hx hb dX1_connect_7 (by decide) ?_
  refine lv_iload_n hx hb dX1_connect_8 rfl (lv_at hl 2 rfl) ?_
  refine r_bit hx hb dX1_connect_9 ?_
  refine lv_ior hx hb dX1_connect_10 ?_
  refine r_iast (f' := cF cI cA ad n (up2 x 8 c ((x 8 c) ||| (bit d)))) hx hb hK hP hD hS 8 0 (by omega) (cF_a (by omega)) rfl (i := c) (by omega) (by decide) (cF_up (by omega)) dX1_connect_11 (fun H locs hP hS => ?_)
  refine lv_aload_n hx hb dX1_connect_12 rfl (lv_at hl 0 rfl) ?_
  refine r_get (C := RX1) (T := TX1) (M := 2) (index := 9) (fd := "linked") (fo := "[I") hx hb hts (by decide +kernel) hown hK hP 2 (by decide) cF_2 rfl 0 (by decide) rfl (by decide +kernel) rfl dX1_connect_13 ?_
  refine lv_iload_n hx hb dX1_connect_16 rfl (lv_at hl 2 rfl) ?_
  refine lv_dup2_11 hx hb dX1_connect_17 rfl rfl ?_
  refine r_iald hx hb hK hP 8 0 (by omega) (cF_a (by omega)) rfl (i := d) (by omega) (by decide) dX1_connect_18 ?_
  refine lv_iconst (v := nI 1) hx hb dX1_connect_19 (by decide) ?_
  refine lv_iload_n hx hb dX1_connect_20 rfl (lv_at hl 1 rfl) ?_
  refine r_bit hx hb dX1_connect_21 ?_
  refine lv_ior hx hb dX1_connect_22 ?_
  refine r_iast (f' := cF cI cA ad n (up2 (up2 x 8 c ((x 8 c) ||| (bit d))) 8 d (((up2 x 8 c ((x 8 c) ||| (bit d))) 8 d) ||| (bit c)))) hx hb hK hP hD hS 8 0 (by omega) (cF_a (by omega)) rfl (i := d) (by omega) (by decide) (cF_up (by omega)) dX1_connect_23 (fun H locs hP hS => ?_)
  refine lv_aload_n hx hb dX1_connect_24 rfl (lv_at hl 0 rfl) ?_
  refine lv_aload_n hx hb dX1_connect_25 rfl (lv_at hl 0 rfl) ?_
  refine r_get (C := RX1) (T := TX1) (M := 2) (index := 15) (fd := "groups") (fo := "[I") hx hb hts (by decide +kernel) hown hK hP 2 (by decide) cF_2 rfl 1 (by decide) rfl (by decide +kernel) rfl dX1_connect_26 ?_
  refine lv_iload_n hx hb dX1_connect_29 rfl (lv_at hl 1 rfl) ?_
  refine r_iald hx hb hK hP 9 0 (by omega) (cF_a (by omega)) rfl (i := c) (by omega) (by decide) dX1_connect_30 ?_
  refine lv_aload_n hx hb dX1_connect_31 rfl (lv_at hl 0 rfl) ?_
  refine r_get (C := RX1) (T := TX1) (M := 2) (index := 15) (fd := "groups") (fo := "[I") hx hb hts (by decide +kernel) hown hK hP 2 (by decide) cF_2 rfl 1 (by decide) rfl (by decide +kernel) rfl dX1_connect_32 ?_
  refine lv_iload_n hx hb dX1_connect_35 rfl (lv_at hl 2 rfl) ?_
  refine r_iald hx hb hK hP 9 0 (by omega) (cF_a (by omega)) rfl (i := d) (by omega) (by decide) dX1_connect_36 ?_
  refine lv_ior hx hb dX1_connect_37 ?_
  refine k_Wv (va_runV (As := [.int (((up2 (up2 x 8 c ((x 8 c) ||| (bit d))) 8 d (((up2 x 8 c ((x 8 c) ||| (bit d))) 8 d) ||| (bit c))) 9 c) ||| ((up2 (up2 x 8 c ((x 8 c) ||| (bit d))) 8 d (((up2 x 8 c ((x 8 c) ||| (bit d))) 8 d) ||| (bit c))) 9 d))]) (rest := []) hF (c_X1_putGroup l D cI cA ad n (up2 (up2 x 8 c ((x 8 c) ||| (bit d))) 8 d (((up2 x 8 c ((x 8 c) ||| (bit d))) 8 d) ||| (bit c))) (((up2 (up2 x 8 c ((x 8 c) ||| (bit d))) 8 d (((up2 x 8 c ((x 8 c) ||| (bit d))) 8 d) ||| (bit c))) 9 c) ||| ((up2 (up2 x 8 c ((x 8 c) ||| (bit d))) 8 d (((up2 x 8 c ((x 8 c) ||| (bit d))) 8 d) ||| (bit c))) 9 d))) (cwV 1 hts gX1_connect_X1_putGroup rfl rfl rfl (by decide +kernel) ⟨(Nat.le_of_ble_eq_true rfl), (Nat.le_of_ble_eq_true rfl)⟩) (k_pre hP hK hD hT (k := 2) (by decide) cF_2 rfl) rfl rfl hl.1 rfl (lv_room (Nat.le_of_ble_eq_true rfl)) dX1_connect_38 ⟨Nat.zero_le _, Nat.zero_le _⟩) hD hS (fun H locs hP hS => ?_)
  exact hret _ _ _ _ _ hP hS dX1_connect_41 (rfl)
set_option maxHeartbeats 4000000 in
set_option maxRecDepth 100000 in
theorem c_X1_disconnect (l : Launch) (D : va_G) (cI : ClassId) (cA : ClassId) (ad : Nat → Nat) (n : Nat) (x : Nat → Nat → Int32) (c : Nat) (d : Nat) (hc : c < 24) (hd : d < 24) : Met l yX1_disconnect wsX1_disconnect ({ frames := 3, cells := 0, slots := 0, locals := 67 }) (va_Pc [.ref (ad 2), .int (nI c), .int (nI d)] (cX D cI cA ad n x)) (qW D ad (cF cI cA ad n (disX x c d)) 46 none) 0 0 (wA ad 46) := by
  refine c_ofV (cc := cX1_disconnect) (maxL := 3) (by decide) rfl (Nat.le_of_ble_eq_true rfl) ?_
  intro p e s m av below meth cd Q hx hb hF hP hK hD hT hret ls hl
  have hown : s.vm.findClass RX1 = some m.cls := hF.2.2.2.1
  have hF : CallFix p m cd cX1_disconnect 3 s av wsX1_disconnect RX1 := hF
  have hts := hF.2.2.2.2
  have hl : lv_has ls 3 [(0, .ref (ad 2)), (1, .int (nI c)), (2, .int (nI d))] := hl
  obtain ⟨H, eH⟩ : ∃ H9 : Heap, H9 = s.heap := ⟨_, rfl⟩
  obtain ⟨locs, eL⟩ : ∃ L9 : List Loc, L9 = [] := ⟨_, rfl⟩
  have hS : sS (wA ad 46) s.heap H locs := by rw [eH, eL]; exact sS.rf
  rw [← eH] at hP
  suffices hgo : W p l e ({ frames := 3, cells := 0, slots := 0, locals := 67 }) s m av below meth cd H locs 0 0 Q (F0 m 0 ls []) by rw [eH, eL] at hgo; exact hgo
  clear eH eL
  refine lv_aload_n hx hb dX1_disconnect_0 rfl (lv_at hl 0 rfl) ?_
  refine r_get (C := RX1) (T := TX1) (M := 2) (index := 9) (fd := "linked") (fo := "[I") hx hb hts (by decide +kernel) hown hK hP 2 (by decide) cF_2 rfl 0 (by decide) rfl (by decide +kernel) rfl dX1_disconnect_1 ?_
  refine lv_iload_n hx hb dX1_disconnect_4 rfl (lv_at hl 1 rfl) ?_
  refine lv_dup2_11 hx hb dX1_disconnect_5 rfl rfl ?_
  refine r_iald hx hb hK hP 8 0 (by omega) (cF_a (by omega)) rfl (i := c) (by omega) (by decide) dX1_disconnect_6 ?_
  refine lv_iconst (v := nI 1) hx hb dX1_disconnect_7 (by decide) ?_
  refine lv_iload_n hx hb dX1_disconnect_8 rfl (lv_at hl 2 rfl) ?_
  refine r_bit hx hb dX1_disconnect_9 ?_
  refine lv_iconst (v := (-1)) hx hb dX1_disconnect_10 (by decide) ?_
  refine lv_ixor hx hb dX1_disconnect_11 ?_
  refine lv_iand hx hb dX1_disconnect_12 ?_
  refine r_iast (f' := cF cI cA ad n (up2 x 8 c ((x 8 c) &&& ((bit d) ^^^ ((-1)))))) hx hb hK hP hD hS 8 0 (by omega) (cF_a (by omega)) rfl (i := c) (by omega) (by decide) (cF_up (by omega)) dX1_disconnect_13 (fun H locs hP hS => ?_)
  refine lv_aload_n hx hb dX1_disconnect_14 rfl (lv_at hl 0 rfl) ?_
  refine r_get (C := RX1) (T := TX1) (M := 2) (index := 9) (fd := "linked") (fo := "[I") hx hb hts (by decide +kernel) hown hK hP 2 (by decide) cF_2 rfl 0 (by decide) rfl (by decide +kernel) rfl dX1_disconnect_15 ?_
  refine lv_iload_n hx hb dX1_disconnect_18 rfl (lv_at hl 2 rfl) ?_
  refine lv_dup2_11 hx hb dX1_disconnect_19 rfl rfl ?_
  refine r_iald hx hb hK hP 8 0 (by omega) (cF_a (by omega)) rfl (i := d) (by omega) (by decide) dX1_disconnect_20 ?_
  refine lv_iconst (v := nI 1) hx hb dX1_disconnect_21 (by decide) ?_
  refine lv_iload_n hx hb dX1_disconnect_22 rfl (lv_at hl 1 rfl) ?_
  refine r_bit hx hb dX1_disconnect_23 ?_
  refine lv_iconst (v := (-1)) hx hb dX1_disconnect_24 (by decide) ?_
  refine lv_ixor hx hb dX1_disconnect_25 ?_
  refine lv_iand hx hb dX1_disconnect_26 ?_
  refine r_iast (f' := cF cI cA ad n (up2 (up2 x 8 c ((x 8 c) &&& ((bit d) ^^^ ((-1))))) 8 d (((up2 x 8 c ((x 8 c) &&& ((bit d) ^^^ ((-1))))) 8 d) &&& ((bit c) ^^^ ((-1)))))) hx hb hK hP hD hS 8 0 (by omega) (cF_a (by omega)) rfl (i := d) (by omega) (by decide) (cF_up (by omega)) dX1_disconnect_27 (fun H locs hP hS => ?_)
  refine lv_aload_n hx hb dX1_disconnect_28 rfl (lv_at hl 0 rfl) ?_
  refine lv_aload_n hx hb dX1_disconnect_29 rfl (lv_at hl 0 rfl) ?_
  refine lv_iload_n hx hb dX1_disconnect_30 rfl (lv_at hl 1 rfl) ?_
  refine k_Ri (va_runV (As := [.int (nI c)]) (rest := [.ref (ad 2)]) hF (c_X1_reachedFrom l D cI cA ad n (up2 (up2 x 8 c ((x 8 c) &&& ((bit d) ^^^ ((-1))))) 8 d (((up2 x 8 c ((x 8 c) &&& ((bit d) ^^^ ((-1))))) 8 d) &&& ((bit c) ^^^ ((-1))))) c hc) (cwV 1 hts gX1_disconnect_X1_reachedFrom rfl rfl rfl (by decide +kernel) ⟨(Nat.le_of_ble_eq_true rfl), (Nat.le_of_ble_eq_true rfl)⟩) (k_pre hP hK hD hT (k := 2) (by decide) cF_2 rfl) rfl rfl hl.1 rfl (lv_room (Nat.le_of_ble_eq_true rfl)) dX1_disconnect_31 ⟨Nat.zero_le _, Nat.zero_le _⟩) ?_
  refine k_Wv (va_runV (As := [.int (reaF ((up2 (up2 x 8 c ((x 8 c) &&& ((bit d) ^^^ ((-1))))) 8 d (((up2 x 8 c ((x 8 c) &&& ((bit d) ^^^ ((-1))))) 8 d) &&& ((bit c) ^^^ ((-1))))) 8) c 24)]) (rest := []) hF (c_X1_putGroup l D cI cA ad n (up2 (up2 x 8 c ((x 8 c) &&& ((bit d) ^^^ ((-1))))) 8 d (((up2 x 8 c ((x 8 c) &&& ((bit d) ^^^ ((-1))))) 8 d) &&& ((bit c) ^^^ ((-1))))) (reaF ((up2 (up2 x 8 c ((x 8 c) &&& ((bit d) ^^^ ((-1))))) 8 d (((up2 x 8 c ((x 8 c) &&& ((bit d) ^^^ ((-1))))) 8 d) &&& ((bit c) ^^^ ((-1))))) 8) c 24)) (cwV 1 hts gX1_disconnect_X1_putGroup rfl rfl rfl (by decide +kernel) ⟨(Nat.le_of_ble_eq_true rfl), (Nat.le_of_ble_eq_true rfl)⟩) (k_pre hP hK hD hT (k := 2) (by decide) cF_2 rfl) rfl rfl hl.1 rfl (lv_room (Nat.le_of_ble_eq_true rfl)) dX1_disconnect_34 ⟨Nat.zero_le _, Nat.zero_le _⟩) hD hS (fun H locs hP hS => ?_)
  refine lv_aload_n hx hb dX1_disconnect_37 rfl (lv_at hl 0 rfl) ?_
  refine lv_aload_n hx hb dX1_disconnect_38 rfl (lv_at hl 0 rfl) ?_
  refine lv_iload_n hx hb dX1_disconnect_39 rfl (lv_at hl 2 rfl) ?_
  refine k_Ri (va_runV (As := [.int (nI d)]) (rest := [.ref (ad 2)]) hF (c_X1_reachedFrom l D cI cA ad n (pgF (up2 (up2 x 8 c ((x 8 c) &&& ((bit d) ^^^ ((-1))))) 8 d (((up2 x 8 c ((x 8 c) &&& ((bit d) ^^^ ((-1))))) 8 d) &&& ((bit c) ^^^ ((-1))))) (reaF ((up2 (up2 x 8 c ((x 8 c) &&& ((bit d) ^^^ ((-1))))) 8 d (((up2 x 8 c ((x 8 c) &&& ((bit d) ^^^ ((-1))))) 8 d) &&& ((bit c) ^^^ ((-1))))) 8) c 24) 24) d hd) (cwV 1 hts gX1_disconnect_X1_reachedFrom rfl rfl rfl (by decide +kernel) ⟨(Nat.le_of_ble_eq_true rfl), (Nat.le_of_ble_eq_true rfl)⟩) (k_pre hP hK hD hT (k := 2) (by decide) cF_2 rfl) rfl rfl hl.1 rfl (lv_room (Nat.le_of_ble_eq_true rfl)) dX1_disconnect_40 ⟨Nat.zero_le _, Nat.zero_le _⟩) ?_
  refine k_Wv (va_runV (As := [.int (reaF ((pgF (up2 (up2 x 8 c ((x 8 c) &&& ((bit d) ^^^ ((-1))))) 8 d (((up2 x 8 c ((x 8 c) &&& ((bit d) ^^^ ((-1))))) 8 d) &&& ((bit c) ^^^ ((-1))))) (reaF ((up2 (up2 x 8 c ((x 8 c) &&& ((bit d) ^^^ ((-1))))) 8 d (((up2 x 8 c ((x 8 c) &&& ((bit d) ^^^ ((-1))))) 8 d) &&& ((bit c) ^^^ ((-1))))) 8) c 24) 24) 8) d 24)]) (rest := []) hF (c_X1_putGroup l D cI cA ad n (pgF (up2 (up2 x 8 c ((x 8 c) &&& ((bit d) ^^^ ((-1))))) 8 d (((up2 x 8 c ((x 8 c) &&& ((bit d) ^^^ ((-1))))) 8 d) &&& ((bit c) ^^^ ((-1))))) (reaF ((up2 (up2 x 8 c ((x 8 c) &&& ((bit d) ^^^ ((-1))))) 8 d (((up2 x 8 c ((x 8 c) &&& ((bit d) ^^^ ((-1))))) 8 d) &&& ((bit c) ^^^ ((-1))))) 8) c 24) 24) (reaF ((pgF (up2 (up2 x 8 c ((x 8 c) &&& ((bit d) ^^^ ((-1))))) 8 d (((up2 x 8 c ((x 8 c) &&& ((bit d) ^^^ ((-1))))) 8 d) &&& ((bit c) ^^^ ((-1))))) (reaF ((up2 (up2 x 8 c ((x 8 c) &&& ((bit d) ^^^ ((-1))))) 8 d (((up2 x 8 c ((x 8 c) &&& ((bit d) ^^^ ((-1))))) 8 d) &&& ((bit c) ^^^ ((-1))))) 8) c 24) 24) 8) d 24)) (cwV 1 hts gX1_disconnect_X1_putGroup rfl rfl rfl (by decide +kernel) ⟨(Nat.le_of_ble_eq_true rfl), (Nat.le_of_ble_eq_true rfl)⟩) (k_pre hP hK hD hT (k := 2) (by decide) cF_2 rfl) rfl rfl hl.1 rfl (lv_room (Nat.le_of_ble_eq_true rfl)) dX1_disconnect_43 ⟨Nat.zero_le _, Nat.zero_le _⟩) hD hS (fun H locs hP hS => ?_)
  exact hret _ _ _ _ _ hP hS dX1_disconnect_46 (rfl)
set_option maxHeartbeats 4000000 in
set_option maxRecDepth 100000 in
theorem c_X2_refuseForGood (l : Launch) (D : va_G) (cI : ClassId) (cA : ClassId) (ad : Nat → Nat) (n : Nat) (x : Nat → Nat → Int32) (c : Nat) (d : Nat) (hc : c < 24) (hd : d < 24) : Met l yX2_refuseForGood wsX2_refuseForGood ({ frames := 0, cells := 0, slots := 0, locals := 0 }) (va_Pc [.ref (ad 3), .int (nI c), .int (nI d)] (cX D cI cA ad n x)) (qW D ad (cF cI cA ad n (rfgX x c d)) 46 none) 0 0 (wA ad 46) := by
  refine c_ofV (cc := cX2_refuseForGood) (maxL := 3) (by decide) rfl (Nat.le_of_ble_eq_true rfl) ?_
  intro p e s m av below meth cd Q hx hb hF hP hK hD hT hret ls hl
  have hown : s.vm.findClass RX2 = some m.cls := hF.2.2.2.1
  have hF : CallFix p m cd cX2_refuseForGood 3 s av wsX2_refuseForGood RX2 := hF
  have hts := hF.2.2.2.2
  have hl : lv_has ls 3 [(0, .ref (ad 3)), (1, .int (nI c)), (2, .int (nI d))] := hl
  obtain ⟨H, eH⟩ : ∃ H9 : Heap, H9 = s.heap := ⟨_, rfl⟩
  obtain ⟨locs, eL⟩ : ∃ L9 : List Loc, L9 = [] := ⟨_, rfl⟩
  have hS : sS (wA ad 46) s.heap H locs := by rw [eH, eL]; exact sS.rf
  rw [← eH] at hP
  suffices hgo : W p l e ({ frames := 0, cells := 0, slots := 0, locals := 0 }) s m av below meth cd H locs 0 0 Q (F0 m 0 ls []) by rw [eH, eL] at hgo; exact hgo
  clear eH eL
  refine lv_aload_n hx hb dX2_refuseForGood_0 rfl (lv_at hl 0 rfl) ?_
  refine r_get (C := RX2) (T := TX2) (M := 2) (index := 9) (fd := "forGood") (fo := "[I") hx hb hts (by decide +kernel) hown hK hP 3 (by decide) cF_3 rfl 0 (by decide) rfl (by decide +kernel) rfl dX2_refuseForGood_1 ?_
  refine lv_iload_n hx hb dX2_refuseForGood_4 rfl (lv_at hl 1 rfl) ?_
  refine lv_dup2_11 hx hb dX2_refuseForGood_5 rfl rfl ?_
  refine r_iald hx hb hK hP 10 0 (by omega) (cF_a (by omega)) rfl (i := c) (by omega) (by decide) dX2_refuseForGood_6 ?_
  refine lv_iconst (v := nI 1) hx hb dX2_refuseForGood_7 (by decide) ?_
  refine lv_iload_n hx hb dX2_refuseForGood_8 rfl (lv_at hl 2 rfl) ?_
  refine r_bit hx hb dX2_refuseForGood_9 ?_
  refine lv_ior hx hb dX2_refuseForGood_10 ?_
  refine r_iast (f' := cF cI cA ad n (up2 x 10 c ((x 10 c) ||| (bit d)))) hx hb hK hP hD hS 10 0 (by omega) (cF_a (by omega)) rfl (i := c) (by omega) (by decide) (cF_up (by omega)) dX2_refuseForGood_11 (fun H locs hP hS => ?_)
  refine lv_aload_n hx hb dX2_refuseForGood_12 rfl (lv_at hl 0 rfl) ?_
  refine r_get (C := RX2) (T := TX2) (M := 2) (index := 9) (fd := "forGood") (fo := "[I") hx hb hts (by decide +kernel) hown hK hP 3 (by decide) cF_3 rfl 0 (by decide) rfl (by decide +kernel) rfl dX2_refuseForGood_13 ?_
  refine lv_iload_n hx hb dX2_refuseForGood_16 rfl (lv_at hl 2 rfl) ?_
  refine lv_dup2_11 hx hb dX2_refuseForGood_17 rfl rfl ?_
  refine r_iald hx hb hK hP 10 0 (by omega) (cF_a (by omega)) rfl (i := d) (by omega) (by decide) dX2_refuseForGood_18 ?_
  refine lv_iconst (v := nI 1) hx hb dX2_refuseForGood_19 (by decide) ?_
  refine lv_iload_n hx hb dX2_refuseForGood_20 rfl (lv_at hl 1 rfl) ?_
  refine r_bit hx hb dX2_refuseForGood_21 ?_
  refine lv_ior hx hb dX2_refuseForGood_22 ?_
  refine r_iast (f' := cF cI cA ad n (up2 (up2 x 10 c ((x 10 c) ||| (bit d))) 10 d (((up2 x 10 c ((x 10 c) ||| (bit d))) 10 d) ||| (bit c)))) hx hb hK hP hD hS 10 0 (by omega) (cF_a (by omega)) rfl (i := d) (by omega) (by decide) (cF_up (by omega)) dX2_refuseForGood_23 (fun H locs hP hS => ?_)
  exact hret _ _ _ _ _ hP hS dX2_refuseForGood_24 (rfl)
set_option maxHeartbeats 4000000 in
set_option maxRecDepth 100000 in
theorem c_X2_refuseForNow (l : Launch) (D : va_G) (cI : ClassId) (cA : ClassId) (ad : Nat → Nat) (n : Nat) (x : Nat → Nat → Int32) (c : Nat) (d : Nat) (w : Int32) (hc : c < 24) (hd : d < 24) : Met l yX2_refuseForNow wsX2_refuseForNow ({ frames := 0, cells := 0, slots := 0, locals := 0 }) (va_Pc [.ref (ad 3), .int (nI c), .int (nI d), .int w] (cX D cI cA ad n x)) (qW D ad (cF cI cA ad n (rfnX x c d w)) 46 none) 0 0 (wA ad 46) := by
  refine c_ofV (cc := cX2_refuseForNow) (maxL := 4) (by decide) rfl (Nat.le_of_ble_eq_true rfl) ?_
  intro p e s m av below meth cd Q hx hb hF hP hK hD hT hret ls hl
  have hown : s.vm.findClass RX2 = some m.cls := hF.2.2.2.1
  have hF : CallFix p m cd cX2_refuseForNow 4 s av wsX2_refuseForNow RX2 := hF
  have hts := hF.2.2.2.2
  have hl : lv_has ls 4 [(0, .ref (ad 3)), (1, .int (nI c)), (2, .int (nI d)), (3, .int w)] := hl
  obtain ⟨H, eH⟩ : ∃ H9 : Heap, H9 = s.heap := ⟨_, rfl⟩
  obtain ⟨locs, eL⟩ : ∃ L9 : List Loc, L9 = [] := ⟨_, rfl⟩
  have hS : sS (wA ad 46) s.heap H locs := by rw [eH, eL]; exact sS.rf
  rw [← eH] at hP
  suffices hgo : W p l e ({ frames := 0, cells := 0, slots := 0, locals := 0 }) s m av below meth cd H locs 0 0 Q (F0 m 0 ls []) by rw [eH, eL] at hgo; exact hgo
  clear eH eL
  refine lv_aload_n hx hb dX2_refuseForNow_0 rfl (lv_at hl 0 rfl) ?_
  refine r_get (C := RX2) (T := TX2) (M := 2) (index := 17) (fd := "changesThen") (fo := "[[I") hx hb hts (by decide +kernel) hown hK hP 3 (by decide) cF_3 rfl 1 (by decide) rfl (by decide +kernel) rfl dX2_refuseForNow_1 ?_
  refine lv_iload_n hx hb dX2_refuseForNow_4 rfl (lv_at hl 1 rfl) ?_
  refine r_aald (g := fun j => j + 22) hx hb hK hP 11 1 (by decide) cF_11 rfl (i := c) (by omega) (by decide) dX2_refuseForNow_5 ?_
  refine lv_iload_n hx hb dX2_refuseForNow_6 rfl (lv_at hl 2 rfl) ?_
  refine lv_iload_n hx hb dX2_refuseForNow_7 rfl (lv_at hl 3 rfl) ?_
  refine r_iast (f' := cF cI cA ad n (up2 x (c + 22) d w)) hx hb hK hP hD hS (c + 22) 0 (by omega) (cF_a (by omega)) rfl (i := d) (by omega) (by decide) (cF_up (by omega)) dX2_refuseForNow_8 (fun H locs hP hS => ?_)
  refine lv_aload_n hx hb dX2_refuseForNow_9 rfl (lv_at hl 0 rfl) ?_
  refine r_get (C := RX2) (T := TX2) (M := 2) (index := 17) (fd := "changesThen") (fo := "[[I") hx hb hts (by decide +kernel) hown hK hP 3 (by decide) cF_3 rfl 1 (by decide) rfl (by decide +kernel) rfl dX2_refuseForNow_10 ?_
  refine lv_iload_n hx hb dX2_refuseForNow_13 rfl (lv_at hl 2 rfl) ?_
  refine r_aald (g := fun j => j + 22) hx hb hK hP 11 1 (by decide) cF_11 rfl (i := d) (by omega) (by decide) dX2_refuseForNow_14 ?_
  refine lv_iload_n hx hb dX2_refuseForNow_15 rfl (lv_at hl 1 rfl) ?_
  refine lv_iload_n hx hb dX2_refuseForNow_16 rfl (lv_at hl 3 rfl) ?_
  refine r_iast (f' := cF cI cA ad n (up2 (up2 x (c + 22) d w) (d + 22) c w)) hx hb hK hP hD hS (d + 22) 0 (by omega) (cF_a (by omega)) rfl (i := c) (by omega) (by decide) (cF_up (by omega)) dX2_refuseForNow_17 (fun H locs hP hS => ?_)
  exact hret _ _ _ _ _ hP hS dX2_refuseForNow_18 (rfl)
set_option maxHeartbeats 4000000 in
set_option maxRecDepth 100000 in
theorem c_X2_stands (l : Launch) (D : va_G) (cI : ClassId) (cA : ClassId) (ad : Nat → Nat) (n : Nat) (x : Nat → Nat → Int32) (c : Nat) (d : Nat) (w : Int32) (hc : c < 24) (hd : d < 24) : Met l yX2_stands wsX2_stands ({ frames := 1, cells := 0, slots := 0, locals := 21 }) (va_Pc [.ref (ad 3), .int (nI c), .int (nI d), .int w] (cX D cI cA ad n x)) (qR (some (.int (bI (staB x c d w))))) 0 0 nF := by
  refine c_ofR (cc := cX2_stands) (maxL := 4) (ret := .boolean) (by decide) rfl (nar_bI _) (Nat.le_of_ble_eq_true rfl) ?_
  intro p e s m av below meth cd Q hx hb hF hP hK hD hT hret ls hl
  have hown : s.vm.findClass RX2 = some m.cls := hF.2.2.2.1
  have hF : CallFix p m cd cX2_stands 4 s av wsX2_stands RX2 := hF
  have hts := hF.2.2.2.2
  have hl : lv_has ls 4 [(0, .ref (ad 3)), (1, .int (nI c)), (2, .int (nI d)), (3, .int w)] := hl
  refine lv_aload_n hx hb dX2_stands_0 rfl (lv_at hl 0 rfl) ?_
  refine r_get (C := RX2) (T := TX2) (M := 2) (index := 9) (fd := "forGood") (fo := "[I") hx hb hts (by decide +kernel) hown hK hP 3 (by decide) cF_3 rfl 0 (by decide) rfl (by decide +kernel) rfl dX2_stands_1 ?_
  refine lv_iload_n hx hb dX2_stands_4 rfl (lv_at hl 1 rfl) ?_
  refine r_iald hx hb hK hP 10 0 (by omega) (cF_a (by omega)) rfl (i := c) (by omega) (by decide) dX2_stands_5 ?_
  refine lv_iload_n hx hb dX2_stands_6 rfl (lv_at hl 2 rfl) ?_
  refine k_Ri (va_runSN (As := [.int (x 10 c), .int (nI d)]) (rest := []) hF (c_X3_has l d (x 10 c)) ⟨va_cnB 2 hts gX2_stands_X3_has_n20 rfl rfl rfl hT.2.2.2 (hts (.initialized RX3) (by decide +kernel)) (by decide +kernel) ⟨(Nat.le_of_ble_eq_true rfl), (Nat.le_of_ble_eq_true rfl)⟩, hts (.static yX3_has) (by decide +kernel), trivial⟩ k_preS rfl rfl hl.1 rfl (lv_room (Nat.le_of_ble_eq_true rfl)) dX2_stands_7 ⟨Nat.zero_le _, Nat.zero_le _⟩) ?_
  refine r_ifneB (b := hasB (x 10 c) d) (tgt := 25) hx hb dX2_stands_10 (by decide) (fun h10_1 => ?_) (fun h10_1 => ?_)
  · refine lv_iconst (v := nI 1) hx hb dX2_stands_25 (by decide) ?_
    refine lv_goto (tgt := 30) hx hb dX2_stands_26 (by decide) ?_
    exact hret _ _ _ dX2_stands_30 (by simp [staB, bI, h10_1])
  · refine lv_aload_n hx hb dX2_stands_13 rfl (lv_at hl 0 rfl) ?_
    refine r_get (C := RX2) (T := TX2) (M := 2) (index := 17) (fd := "changesThen") (fo := "[[I") hx hb hts (by decide +kernel) hown hK hP 3 (by decide) cF_3 rfl 1 (by decide) rfl (by decide +kernel) rfl dX2_stands_14 ?_
    refine lv_iload_n hx hb dX2_stands_17 rfl (lv_at hl 1 rfl) ?_
    refine r_aald (g := fun j => j + 22) hx hb hK hP 11 1 (by decide) cF_11 rfl (i := c) (by omega) (by decide) dX2_stands_18 ?_
    refine lv_iload_n hx hb dX2_stands_19 rfl (lv_at hl 2 rfl) ?_
    refine r_iald hx hb hK hP (c + 22) 0 (by omega) (cF_a (by omega)) rfl (i := d) (by omega) (by decide) dX2_stands_20 ?_
    refine lv_iload_n hx hb dX2_stands_21 rfl (lv_at hl 3 rfl) ?_
    refine lv_icmp_ne (tgt := 29) hx hb dX2_stands_22 (by decide) (fun h22_2 => ?_) (fun h22_2 => ?_)
    · refine lv_iconst (v := nI 0) hx hb dX2_stands_29 (by decide) ?_
      exact hret _ _ _ dX2_stands_30 (by simp [staB, bI, h10_1, h22_2])
    · refine lv_iconst (v := nI 1) hx hb dX2_stands_25 (by decide) ?_
      refine lv_goto (tgt := 30) hx hb dX2_stands_26 (by decide) ?_
      exact hret _ _ _ dX2_stands_30 (by simp [staB, bI, h10_1, h22_2])
