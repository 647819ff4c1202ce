set_option maxHeartbeats 4000000 in
set_option maxRecDepth 100000 in
theorem c_X0_isIn (l : Launch) (D : va_G) (cI : ClassId) (cA : ClassId) (ad : Nat → Nat) (n : Nat) (x : Nat → Nat → Int32) (c : Nat) (b : Int32) (hc : c < 24) : Met l yX0_isIn wsX0_isIn ({ frames := 0, cells := 0, slots := 0, locals := 0 }) (va_Pc [.ref (ad 1), .int (nI c), .int b] (cX D cI cA ad n x)) (qR (some (.int (bI (decide (x 4 c = b)))))) 0 0 nF := by
  refine c_ofR (cc := cX0_isIn) (maxL := 3) (ret := .boolean) (by decide) rfl (nar_bI _) (Nat.le_of_ble_eq_true rfl) ?_
  intro p e s m av below meth cd Q hx hb hF hP hK hD hT hret ls hl
  have hown : s.vm.findClass RX0 = some m.cls := hF.2.2.2.1
  have hF : CallFix p m cd cX0_isIn 3 s av wsX0_isIn RX0 := hF
  have hts := hF.2.2.2.2
  have hl : lv_has ls 3 [(0, .ref (ad 1)), (1, .int (nI c)), (2, .int b)] := hl
  refine lv_aload_n hx hb dX0_isIn_0 rfl (lv_at hl 0 rfl) ?_
  refine r_get (C := RX0) (T := TX0) (M := 5) (index := 9) (fd := "books") (fo := "[I") hx hb hts (by decide +kernel) hown hK hP 1 (by decide) cF_1 rfl 0 (by decide) rfl (by decide +kernel) rfl dX0_isIn_1 ?_
  refine lv_iload_n hx hb dX0_isIn_4 rfl (lv_at hl 1 rfl) ?_
  refine r_iald hx hb hK hP 4 0 (by omega) (cF_a (by omega)) rfl (i := c) (by omega) (by decide) dX0_isIn_5 ?_
  refine lv_iload_n hx hb dX0_isIn_6 rfl (lv_at hl 2 rfl) ?_
  refine lv_icmp_ne (tgt := 14) hx hb dX0_isIn_7 (by decide) (fun h7_1 => ?_) (fun h7_1 => ?_)
  · refine lv_iconst (v := nI 0) hx hb dX0_isIn_14 (by decide) ?_
    exact hret _ _ _ dX0_isIn_15 (by simp [bI, h7_1])
  · refine lv_iconst (v := nI 1) hx hb dX0_isIn_10 (by decide) ?_
    refine lv_goto (tgt := 15) hx hb dX0_isIn_11 (by decide) ?_
    exact hret _ _ _ dX0_isIn_15 (by simp [bI, h7_1])
set_option maxHeartbeats 4000000 in
set_option maxRecDepth 100000 in
theorem c_X0_nameIn (l : Launch) (D : va_G) (cI : ClassId) (cA : ClassId) (ad : Nat → Nat) (n : Nat) (x : Nat → Nat → Int32) (c : Nat) (v : Nat) (hc : c < 24) (hv : v < 3) : Met l yX0_nameIn wsX0_nameIn ({ frames := 0, cells := 0, slots := 0, locals := 0 }) (va_Pc [.ref (ad 1), .int (nI c), .int (nI v)] (cX D cI cA ad n x)) (qR (some (.int (x (v + 13) c)))) 0 0 nF := by
  refine c_ofR (cc := cX0_nameIn) (maxL := 3) (ret := .int) (by decide) rfl rfl (Nat.le_of_ble_eq_true rfl) ?_
  intro p e s m av below meth cd Q hx hb hF hP hK hD hT hret ls hl
  have hown : s.vm.findClass RX0 = some m.cls := hF.2.2.2.1
  have hF : CallFix p m cd cX0_nameIn 3 s av wsX0_nameIn RX0 := hF
  have hts := hF.2.2.2.2
  have hl : lv_has ls 3 [(0, .ref (ad 1)), (1, .int (nI c)), (2, .int (nI v))] := hl
  refine lv_aload_n hx hb dX0_nameIn_0 rfl (lv_at hl 0 rfl) ?_
  refine r_get (C := RX0) (T := TX0) (M := 5) (index := 17) (fd := "names") (fo := "[[I") hx hb hts (by decide +kernel) hown hK hP 1 (by decide) cF_1 rfl 1 (by decide) rfl (by decide +kernel) rfl dX0_nameIn_1 ?_
  refine lv_iload_n hx hb dX0_nameIn_4 rfl (lv_at hl 2 rfl) ?_
  refine r_aald (g := fun j => j + 13) hx hb hK hP 5 1 (by decide) cF_5 rfl (i := v) (by omega) (by decide) dX0_nameIn_5 ?_
  refine lv_iload_n hx hb dX0_nameIn_6 rfl (lv_at hl 1 rfl) ?_
  refine r_iald hx hb hK hP (v + 13) 0 (by omega) (cF_a (by omega)) rfl (i := c) (by omega) (by decide) dX0_nameIn_7 ?_
  exact hret _ _ _ dX0_nameIn_8 (rfl)
set_option maxHeartbeats 4000000 in
set_option maxRecDepth 100000 in
theorem c_X0_setOf (l : Launch) (D : va_G) (cI : ClassId) (cA : ClassId) (ad : Nat → Nat) (n : Nat) (x : Nat → Nat → Int32) (c : Nat) (v : Nat) (k : Nat) (hc : c < 24) (hv : v < 3) (hk : k < 2) : Met l yX0_setOf wsX0_setOf ({ frames := 0, cells := 0, slots := 0, locals := 0 }) (va_Pc [.ref (ad 1), .int (nI c), .int (nI v), .int (nI k)] (cX D cI cA ad n x)) (qR (some (.int (x (2 * v + k + 16) c)))) 0 0 nF := by
  refine c_ofR (cc := cX0_setOf) (maxL := 4) (ret := .int) (by decide) rfl rfl (Nat.le_of_ble_eq_true rfl) ?_
  intro p e s m av below meth cd Q hx hb hF hP hK hD hT hret ls hl
  have hown : s.vm.findClass RX0 = some m.cls := hF.2.2.2.1
  have hF : CallFix p m cd cX0_setOf 4 s av wsX0_setOf RX0 := hF
  have hts := hF.2.2.2.2
  have hl : lv_has ls 4 [(0, .ref (ad 1)), (1, .int (nI c)), (2, .int (nI v)), (3, .int (nI k))] := hl
  refine lv_aload_n hx hb dX0_setOf_0 rfl (lv_at hl 0 rfl) ?_
  refine r_get (C := RX0) (T := TX0) (M := 5) (index := 20) (fd := "sets") (fo := "[[I") hx hb hts (by decide +kernel) hown hK hP 1 (by decide) cF_1 rfl 2 (by decide) rfl (by decide +kernel) rfl dX0_setOf_1 ?_
  refine lv_iload_n hx hb dX0_setOf_4 rfl (lv_at hl 2 rfl) ?_
  refine lv_iconst (v := nI 2) hx hb dX0_setOf_5 (by decide) ?_
  refine r_mulN (a := v) (b := 2) (r := 2 * v) hx hb dX0_setOf_6 (by omega) ?_
  refine lv_iload_n hx hb dX0_setOf_7 rfl (lv_at hl 3 rfl) ?_
  refine r_addN (a := 2 * v) (b := k) (r := 2 * v + k) hx hb dX0_setOf_8 (by omega) ?_
  refine r_aald (g := fun j => j + 16) hx hb hK hP 6 1 (by decide) cF_6 rfl (i := 2 * v + k) (by omega) (by decide) dX0_setOf_9 ?_
  refine lv_iload_n hx hb dX0_setOf_10 rfl (lv_at hl 1 rfl) ?_
  refine r_iald hx hb hK hP (2 * v + k + 16) 0 (by omega) (cF_a (by omega)) rfl (i := c) (by omega) (by decide) dX0_setOf_11 ?_
  exact hret _ _ _ dX0_setOf_12 (rfl)
set_option maxHeartbeats 4000000 in
set_option maxRecDepth 100000 in
theorem c_X0_setOf_0 (l : Launch) (D : va_G) (cI : ClassId) (cA : ClassId) (ad : Nat → Nat) (n : Nat) (x : Nat → Nat → Int32) (c : Nat) (k : Nat) (hc : c < 24) (hk : k < 2) : Met l yX0_setOf wsX0_setOf ({ frames := 0, cells := 0, slots := 0, locals := 0 }) (va_Pc [.ref (ad 1), .int (nI c), .int (nI 0), .int (nI k)] (cX D cI cA ad n x)) (qR (some (.int (x (k + 16) c)))) 0 0 nF := by
  refine c_ofR (cc := cX0_setOf) (maxL := 4) (ret := .int) (by decide) rfl rfl (Nat.le_of_ble_eq_true rfl) ?_
  intro p e s m av below meth cd Q hx hb hF hP hK hD hT hret ls hl
  have hown : s.vm.findClass RX0 = some m.cls := hF.2.2.2.1
  have hF : CallFix p m cd cX0_setOf 4 s av wsX0_setOf RX0 := hF
  have hts := hF.2.2.2.2
  have hl : lv_has ls 4 [(0, .ref (ad 1)), (1, .int (nI c)), (2, .int (nI 0)), (3, .int (nI k))] := hl
  refine lv_aload_n hx hb dX0_setOf_0 rfl (lv_at hl 0 rfl) ?_
  refine r_get (C := RX0) (T := TX0) (M := 5) (index := 20) (fd := "sets") (fo := "[[I") hx hb hts (by decide +kernel) hown hK hP 1 (by decide) cF_1 rfl 2 (by decide) rfl (by decide +kernel) rfl dX0_setOf_1 ?_
  refine lv_iload_n hx hb dX0_setOf_4 rfl (lv_at hl 2 rfl) ?_
  refine lv_iconst (v := nI 2) hx hb dX0_setOf_5 (by decide) ?_
  refine r_mulN (a := 0) (b := 2) (r := 0) hx hb dX0_setOf_6 (by omega) ?_
  refine lv_iload_n hx hb dX0_setOf_7 rfl (lv_at hl 3 rfl) ?_
  refine r_addN (a := 0) (b := k) (r := k) hx hb dX0_setOf_8 (by omega) ?_
  refine r_aald (g := fun j => j + 16) hx hb hK hP 6 1 (by decide) cF_6 rfl (i := k) (by omega) (by decide) dX0_setOf_9 ?_
  refine lv_iload_n hx hb dX0_setOf_10 rfl (lv_at hl 1 rfl) ?_
  refine r_iald hx hb hK hP (k + 16) 0 (by omega) (cF_a (by omega)) rfl (i := c) (by omega) (by decide) dX0_setOf_11 ?_
  exact hret _ _ _ dX0_setOf_12 (rfl)
set_option maxHeartbeats 4000000 in
set_option maxRecDepth 100000 in
theorem c_X0_setOf_1 (l : Launch) (D : va_G) (cI : ClassId) (cA : ClassId) (ad : Nat → Nat) (n : Nat) (x : Nat → Nat → Int32) (c : Nat) (k : Nat) (hc : c < 24) (hk : k < 2) : Met l yX0_setOf wsX0_setOf ({ frames := 0, cells := 0, slots := 0, locals := 0 }) (va_Pc [.ref (ad 1), .int (nI c), .int (nI 1), .int (nI k)] (cX D cI cA ad n x)) (qR (some (.int (x (k + 18) c)))) 0 0 nF := by
  refine c_ofR (cc := cX0_setOf) (maxL := 4) (ret := .int) (by decide) rfl rfl (Nat.le_of_ble_eq_true rfl) ?_
  intro p e s m av below meth cd Q hx hb hF hP hK hD hT hret ls hl
  have hown : s.vm.findClass RX0 = some m.cls := hF.2.2.2.1
  have hF : CallFix p m cd cX0_setOf 4 s av wsX0_setOf RX0 := hF
  have hts := hF.2.2.2.2
  have hl : lv_has ls 4 [(0, .ref (ad 1)), (1, .int (nI c)), (2, .int (nI 1)), (3, .int (nI k))] := hl
  refine lv_aload_n hx hb dX0_setOf_0 rfl (lv_at hl 0 rfl) ?_
  refine r_get (C := RX0) (T := TX0) (M := 5) (index := 20) (fd := "sets") (fo := "[[I") hx hb hts (by decide +kernel) hown hK hP 1 (by decide) cF_1 rfl 2 (by decide) rfl (by decide +kernel) rfl dX0_setOf_1 ?_
  refine lv_iload_n hx hb dX0_setOf_4 rfl (lv_at hl 2 rfl) ?_
  refine lv_iconst (v := nI 2) hx hb dX0_setOf_5 (by decide) ?_
  refine r_mulN (a := 1) (b := 2) (r := 2) hx hb dX0_setOf_6 (by omega) ?_
  refine lv_iload_n hx hb dX0_setOf_7 rfl (lv_at hl 3 rfl) ?_
  refine r_addN (a := 2) (b := k) (r := k + 2) hx hb dX0_setOf_8 (by omega) ?_
  refine r_aald (g := fun j => j + 16) hx hb hK hP 6 1 (by decide) cF_6 rfl (i := k + 2) (by omega) (by decide) dX0_setOf_9 ?_
  refine lv_iload_n hx hb dX0_setOf_10 rfl (lv_at hl 1 rfl) ?_
  refine r_iald hx hb hK hP (k + 18) 0 (by omega) (cF_a (by omega)) rfl (i := c) (by omega) (by decide) dX0_setOf_11 ?_
  exact hret _ _ _ dX0_setOf_12 (rfl)
set_option maxHeartbeats 4000000 in
set_option maxRecDepth 100000 in
theorem c_X0_setOf_2 (l : Launch) (D : va_G) (cI : ClassId) (cA : ClassId) (ad : Nat → Nat) (n : Nat) (x : Nat → Nat → Int32) (c : Nat) (k : Nat) (hc : c < 24) (hk : k < 2) : Met l yX0_setOf wsX0_setOf ({ frames := 0, cells := 0, slots := 0, locals := 0 }) (va_Pc [.ref (ad 1), .int (nI c), .int (nI 2), .int (nI k)] (cX D cI cA ad n x)) (qR (some (.int (x (k + 20) c)))) 0 0 nF := by
  refine c_ofR (cc := cX0_setOf) (maxL := 4) (ret := .int) (by decide) rfl rfl (Nat.le_of_ble_eq_true rfl) ?_
  intro p e s m av below meth cd Q hx hb hF hP hK hD hT hret ls hl
  have hown : s.vm.findClass RX0 = some m.cls := hF.2.2.2.1
  have hF : CallFix p m cd cX0_setOf 4 s av wsX0_setOf RX0 := hF
  have hts := hF.2.2.2.2
  have hl : lv_has ls 4 [(0, .ref (ad 1)), (1, .int (nI c)), (2, .int (nI 2)), (3, .int (nI k))] := hl
  refine lv_aload_n hx hb dX0_setOf_0 rfl (lv_at hl 0 rfl) ?_
  refine r_get (C := RX0) (T := TX0) (M := 5) (index := 20) (fd := "sets") (fo := "[[I") hx hb hts (by decide +kernel) hown hK hP 1 (by decide) cF_1 rfl 2 (by decide) rfl (by decide +kernel) rfl dX0_setOf_1 ?_
  refine lv_iload_n hx hb dX0_setOf_4 rfl (lv_at hl 2 rfl) ?_
  refine lv_iconst (v := nI 2) hx hb dX0_setOf_5 (by decide) ?_
  refine r_mulN (a := 2) (b := 2) (r := 4) hx hb dX0_setOf_6 (by omega) ?_
  refine lv_iload_n hx hb dX0_setOf_7 rfl (lv_at hl 3 rfl) ?_
  refine r_addN (a := 4) (b := k) (r := k + 4) hx hb dX0_setOf_8 (by omega) ?_
  refine r_aald (g := fun j => j + 16) hx hb hK hP 6 1 (by decide) cF_6 rfl (i := k + 4) (by omega) (by decide) dX0_setOf_9 ?_
  refine lv_iload_n hx hb dX0_setOf_10 rfl (lv_at hl 1 rfl) ?_
  refine r_iald hx hb hK hP (k + 20) 0 (by omega) (cF_a (by omega)) rfl (i := c) (by omega) (by decide) dX0_setOf_11 ?_
  exact hret _ _ _ dX0_setOf_12 (rfl)
set_option maxHeartbeats 4000000 in
set_option maxRecDepth 100000 in
theorem c_X0_nameIn_0 (l : Launch) (D : va_G) (cI : ClassId) (cA : ClassId) (ad : Nat → Nat) (n : Nat) (x : Nat → Nat → Int32) (c : Nat) (hc : c < 24) : Met l yX0_nameIn wsX0_nameIn ({ frames := 0, cells := 0, slots := 0, locals := 0 }) (va_Pc [.ref (ad 1), .int (nI c), .int (nI 0)] (cX D cI cA ad n x)) (qR (some (.int (x 13 c)))) 0 0 nF := by
  refine c_ofR (cc := cX0_nameIn) (maxL := 3) (ret := .int) (by decide) rfl rfl (Nat.le_of_ble_eq_true rfl) ?_
  intro p e s m av below meth cd Q hx hb hF hP hK hD hT hret ls hl
  have hown : s.vm.findClass RX0 = some m.cls := hF.2.2.2.1
  have hF : CallFix p m cd cX0_nameIn 3 s av wsX0_nameIn RX0 := hF
  have hts := hF.2.2.2.2
  have hl : lv_has ls 3 [(0, .ref (ad 1)), (1, .int (nI c)), (2, .int (nI 0))] := hl
  refine lv_aload_n hx hb dX0_nameIn_0 rfl (lv_at hl 0 rfl) ?_
  refine r_get (C := RX0) (T := TX0) (M := 5) (index := 17) (fd := "names") (fo := "[[I") hx hb hts (by decide +kernel) hown hK hP 1 (by decide) cF_1 rfl 1 (by decide) rfl (by decide +kernel) rfl dX0_nameIn_1 ?_
  refine lv_iload_n hx hb dX0_nameIn_4 rfl (lv_at hl 2 rfl) ?_
  refine r_aald (g := fun j => j + 13) hx hb hK hP 5 1 (by decide) cF_5 rfl (i := 0) (by omega) (by decide) dX0_nameIn_5 ?_
  refine lv_iload_n hx hb dX0_nameIn_6 rfl (lv_at hl 1 rfl) ?_
  refine r_iald hx hb hK hP 13 0 (by omega) (cF_a (by omega)) rfl (i := c) (by omega) (by decide) dX0_nameIn_7 ?_
  exact hret _ _ _ dX0_nameIn_8 (rfl)
set_option maxHeartbeats 4000000 in
set_option maxRecDepth 100000 in
theorem c_X0_nameIn_1 (l : Launch) (D : va_G) (cI : ClassId) (cA : ClassId) (ad : Nat → Nat) (n : Nat) (x : Nat → Nat → Int32) (c : Nat) (hc : c < 24) : Met l yX0_nameIn wsX0_nameIn ({ frames := 0, cells := 0, slots := 0, locals := 0 }) (va_Pc [.ref (ad 1), .int (nI c), .int (nI 1)] (cX D cI cA ad n x)) (qR (some (.int (x 14 c)))) 0 0 nF := by
  refine c_ofR (cc := cX0_nameIn) (maxL := 3) (ret := .int) (by decide) rfl rfl (Nat.le_of_ble_eq_true rfl) ?_
  intro p e s m av below meth cd Q hx hb hF hP hK hD hT hret ls hl
  have hown : s.vm.findClass RX0 = some m.cls := hF.2.2.2.1
  have hF : CallFix p m cd cX0_nameIn 3 s av wsX0_nameIn RX0 := hF
  have hts := hF.2.2.2.2
  have hl : lv_has ls 3 [(0, .ref (ad 1)), (1, .int (nI c)), (2, .int (nI 1))] := hl
  refine lv_aload_n hx hb dX0_nameIn_0 rfl (lv_at hl 0 rfl) ?_
  refine r_get (C := RX0) (T := TX0) (M := 5) (index := 17) (fd := "names") (fo := "[[I") hx hb hts (by decide +kernel) hown hK hP 1 (by decide) cF_1 rfl 1 (by decide) rfl (by decide +kernel) rfl dX0_nameIn_1 ?_
  refine lv_iload_n hx hb dX0_nameIn_4 rfl (lv_at hl 2 rfl) ?_
  refine r_aald (g := fun j => j + 13) hx hb hK hP 5 1 (by decide) cF_5 rfl (i := 1) (by omega) (by decide) dX0_nameIn_5 ?_
  refine lv_iload_n hx hb dX0_nameIn_6 rfl (lv_at hl 1 rfl) ?_
  refine r_iald hx hb hK hP 14 0 (by omega) (cF_a (by omega)) rfl (i := c) (by omega) (by decide) dX0_nameIn_7 ?_
  exact hret _ _ _ dX0_nameIn_8 (rfl)
set_option maxHeartbeats 4000000 in
set_option maxRecDepth 100000 in
theorem c_X0_nameIn_2 (l : Launch) (D : va_G) (cI : ClassId) (cA : ClassId) (ad : Nat → Nat) (n : Nat) (x : Nat → Nat → Int32) (c : Nat) (hc : c < 24) : Met l yX0_nameIn wsX0_nameIn ({ frames := 0, cells := 0, slots := 0, locals := 0 }) (va_Pc [.ref (ad 1), .int (nI c), .int (nI 2)] (cX D cI cA ad n x)) (qR (some (.int (x 15 c)))) 0 0 nF := by
  refine c_ofR (cc := cX0_nameIn) (maxL := 3) (ret := .int) (by decide) rfl rfl (Nat.le_of_ble_eq_true rfl) ?_
  intro p e s m av below meth cd Q hx hb hF hP hK hD hT hret ls hl
  have hown : s.vm.findClass RX0 = some m.cls := hF.2.2.2.1
  have hF : CallFix p m cd cX0_nameIn 3 s av wsX0_nameIn RX0 := hF
  have hts := hF.2.2.2.2
  have hl : lv_has ls 3 [(0, .ref (ad 1)), (1, .int (nI c)), (2, .int (nI 2))] := hl
  refine lv_aload_n hx hb dX0_nameIn_0 rfl (lv_at hl 0 rfl) ?_
  refine r_get (C := RX0) (T := TX0) (M := 5) (index := 17) (fd := "names") (fo := "[[I") hx hb hts (by decide +kernel) hown hK hP 1 (by decide) cF_1 rfl 1 (by decide) rfl (by decide +kernel) rfl dX0_nameIn_1 ?_
  refine lv_iload_n hx hb dX0_nameIn_4 rfl (lv_at hl 2 rfl) ?_
  refine r_aald (g := fun j => j + 13) hx hb hK hP 5 1 (by decide) cF_5 rfl (i := 2) (by omega) (by decide) dX0_nameIn_5 ?_
  refine lv_iload_n hx hb dX0_nameIn_6 rfl (lv_at hl 1 rfl) ?_
  refine r_iald hx hb hK hP 15 0 (by omega) (cF_a (by omega)) rfl (i := c) (by omega) (by decide) dX0_nameIn_7 ?_
  exact hret _ _ _ dX0_nameIn_8 (rfl)
