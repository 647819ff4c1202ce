set_option maxHeartbeats 4000000 in
set_option maxRecDepth 100000 in
theorem c_X3_has (l : Launch) (c : Nat) (s9 : Int32) : Met l yX3_has wsX3_has ({ frames := 0, cells := 0, slots := 0, locals := 0 }) (va_Pc [.int s9, .int (nI c)] (fun _ => True)) (qR (some (.int (bI (hasB s9 c))))) 0 0 nF := by
  refine c_ofP (cc := cX3_has) (maxL := 2) (ret := .boolean) (by decide) rfl (nar_bI _) (Nat.le_of_ble_eq_true rfl) ?_
  intro p e s m av below meth cd Q hx hb hF hret ls hl
  have hown : s.vm.findClass RX3 = some m.cls := hF.2.2.2.1
  have hF : CallFix p m cd cX3_has 2 s av wsX3_has RX3 := hF
  have hts := hF.2.2.2.2
  have hl : lv_has ls 2 [(0, .int s9), (1, .int (nI c))] := hl
  refine lv_iload_n hx hb dX3_has_0 rfl (lv_at hl 0 rfl) ?_
  refine lv_iconst (v := nI 1) hx hb dX3_has_1 (by decide) ?_
  refine lv_iload_n hx hb dX3_has_2 rfl (lv_at hl 1 rfl) ?_
  refine r_bit hx hb dX3_has_3 ?_
  refine lv_iand hx hb dX3_has_4 ?_
  refine lv_if_eq (tgt := 12) hx hb dX3_has_5 (by decide) (fun h5_1 => ?_) (fun h5_1 => ?_)
  · refine lv_iconst (v := nI 0) hx hb dX3_has_12 (by decide) ?_
    exact hret _ _ _ dX3_has_13 (by simp [hasB, bI, h5_1])
  · refine lv_iconst (v := nI 1) hx hb dX3_has_8 (by decide) ?_
    refine lv_goto (tgt := 13) hx hb dX3_has_9 (by decide) ?_
    exact hret _ _ _ dX3_has_13 (by simp [hasB, bI, h5_1])
set_option maxHeartbeats 4000000 in
set_option maxRecDepth 100000 in
theorem c_J6_bitCount_0f7a4 (l : Launch) (a : Int32) : Met l yJ6_bitCount_0f7a4 wsJ6_bitCount_0f7a4 ({ frames := 0, cells := 0, slots := 0, locals := 0 }) (va_Pc [.int a] (fun _ => True)) (qR (some (.int (bc a)))) 0 0 nF := by
  refine c_ofP (cc := cJ6_bitCount_0f7a4) (maxL := 1) (ret := .int) (by decide) rfl rfl (Nat.le_of_ble_eq_true rfl) ?_
  intro p e s m av below meth cd Q hx hb hF hret ls hl
  have hown : s.vm.findClass RJ6 = some m.cls := hF.2.2.2.1
  have hF : CallFix p m cd cJ6_bitCount_0f7a4 1 s av wsJ6_bitCount_0f7a4 RJ6 := hF
  have hts := hF.2.2.2.2
  have hl : lv_has ls 1 [(0, .int a)] := hl
  refine lv_iload_n hx hb dJ6_bitCount_0f7a4_0 rfl (lv_at hl 0 rfl) ?_
  refine lv_iload_n hx hb dJ6_bitCount_0f7a4_1 rfl (lv_at hl 0 rfl) ?_
  refine lv_iconst (v := nI 1) hx hb dJ6_bitCount_0f7a4_2 (by decide) ?_
  refine lv_iushr (v := ush a (nI 1)) hx hb dJ6_bitCount_0f7a4_3 rfl ?_
  refine lv_ldcw (own := RJ6) (v := 1431655765) hx hb hown (hts (.constant RJ6 265 (1431655765)) (by decide +kernel)) dJ6_bitCount_0f7a4_4 ?_
  refine lv_iand hx hb dJ6_bitCount_0f7a4_7 ?_
  refine lv_isub hx hb dJ6_bitCount_0f7a4_8 ?_
  refine lv_istore_n (lv' := [(0, .int (a - ((ush a (nI 1)) &&& ((1431655765 : Int32)))))]) hx hb dJ6_bitCount_0f7a4_9 rfl hl (by decide) rfl (fun ls hl => ?_)
  refine lv_iload_n hx hb dJ6_bitCount_0f7a4_10 rfl (lv_at hl 0 rfl) ?_
  refine lv_ldcw (own := RJ6) (v := 858993459) hx hb hown (hts (.constant RJ6 266 (858993459)) (by decide +kernel)) dJ6_bitCount_0f7a4_11 ?_
  refine lv_iand hx hb dJ6_bitCount_0f7a4_14 ?_
  refine lv_iload_n hx hb dJ6_bitCount_0f7a4_15 rfl (lv_at hl 0 rfl) ?_
  refine lv_iconst (v := nI 2) hx hb dJ6_bitCount_0f7a4_16 (by decide) ?_
  refine lv_iushr (v := ush (a - ((ush a (nI 1)) &&& ((1431655765 : Int32)))) (nI 2)) hx hb dJ6_bitCount_0f7a4_17 rfl ?_
  refine lv_ldcw (own := RJ6) (v := 858993459) hx hb hown (hts (.constant RJ6 266 (858993459)) (by decide +kernel)) dJ6_bitCount_0f7a4_18 ?_
  refine lv_iand hx hb dJ6_bitCount_0f7a4_21 ?_
  refine lv_iadd hx hb dJ6_bitCount_0f7a4_22 ?_
  refine lv_istore_n (lv' := [(0, .int (((a - ((ush a (nI 1)) &&& ((1431655765 : Int32)))) &&& ((858993459 : Int32))) + ((ush (a - ((ush a (nI 1)) &&& ((1431655765 : Int32)))) (nI 2)) &&& ((858993459 : Int32)))))]) hx hb dJ6_bitCount_0f7a4_23 rfl hl (by decide) rfl (fun ls hl => ?_)
  refine lv_iload_n hx hb dJ6_bitCount_0f7a4_24 rfl (lv_at hl 0 rfl) ?_
  refine lv_iload_n hx hb dJ6_bitCount_0f7a4_25 rfl (lv_at hl 0 rfl) ?_
  refine lv_iconst (v := nI 4) hx hb dJ6_bitCount_0f7a4_26 (by decide) ?_
  refine lv_iushr (v := ush (((a - ((ush a (nI 1)) &&& ((1431655765 : Int32)))) &&& ((858993459 : Int32))) + ((ush (a - ((ush a (nI 1)) &&& ((1431655765 : Int32)))) (nI 2)) &&& ((858993459 : Int32)))) (nI 4)) hx hb dJ6_bitCount_0f7a4_27 rfl ?_
  refine lv_iadd hx hb dJ6_bitCount_0f7a4_28 ?_
  refine lv_ldcw (own := RJ6) (v := 252645135) hx hb hown (hts (.constant RJ6 267 (252645135)) (by decide +kernel)) dJ6_bitCount_0f7a4_29 ?_
  refine lv_iand hx hb dJ6_bitCount_0f7a4_32 ?_
  refine lv_istore_n (lv' := [(0, .int (((((a - ((ush a (nI 1)) &&& ((1431655765 : Int32)))) &&& ((858993459 : Int32))) + ((ush (a - ((ush a (nI 1)) &&& ((1431655765 : Int32)))) (nI 2)) &&& ((858993459 : Int32)))) + (ush (((a - ((ush a (nI 1)) &&& ((1431655765 : Int32)))) &&& ((858993459 : Int32))) + ((ush (a - ((ush a (nI 1)) &&& ((1431655765 : Int32)))) (nI 2)) &&& ((858993459 : Int32)))) (nI 4))) &&& ((252645135 : Int32))))]) hx hb dJ6_bitCount_0f7a4_33 rfl hl (by decide) rfl (fun ls hl => ?_)
  refine lv_iload_n hx hb dJ6_bitCount_0f7a4_34 rfl (lv_at hl 0 rfl) ?_
  refine lv_iload_n hx hb dJ6_bitCount_0f7a4_35 rfl (lv_at hl 0 rfl) ?_
  refine lv_bipush (v := nI 8) hx hb dJ6_bitCount_0f7a4_36 (by decide) ?_
  refine lv_iushr (v := ush (((((a - ((ush a (nI 1)) &&& ((1431655765 : Int32)))) &&& ((858993459 : Int32))) + ((ush (a - ((ush a (nI 1)) &&& ((1431655765 : Int32)))) (nI 2)) &&& ((858993459 : Int32)))) + (ush (((a - ((ush a (nI 1)) &&& ((1431655765 : Int32)))) &&& ((858993459 : Int32))) + ((ush (a - ((ush a (nI 1)) &&& ((1431655765 : Int32)))) (nI 2)) &&& ((858993459 : Int32)))) (nI 4))) &&& ((252645135 : Int32))) (nI 8)) hx hb dJ6_bitCount_0f7a4_38 rfl ?_
  refine lv_iadd hx hb dJ6_bitCount_0f7a4_39 ?_
  refine lv_istore_n (lv' := [(0, .int ((((((a - ((ush a (nI 1)) &&& ((1431655765 : Int32)))) &&& ((858993459 : Int32))) + ((ush (a - ((ush a (nI 1)) &&& ((1431655765 : Int32)))) (nI 2)) &&& ((858993459 : Int32)))) + (ush (((a - ((ush a (nI 1)) &&& ((1431655765 : Int32)))) &&& ((858993459 : Int32))) + ((ush (a - ((ush a (nI 1)) &&& ((1431655765 : Int32)))) (nI 2)) &&& ((858993459 : Int32)))) (nI 4))) &&& ((252645135 : Int32))) + (ush (((((a - ((ush a (nI 1)) &&& ((1431655765 : Int32)))) &&& ((858993459 : Int32))) + ((ush (a - ((ush a (nI 1)) &&& ((1431655765 : Int32)))) (nI 2)) &&& ((858993459 : Int32)))) + (ush (((a - ((ush a (nI 1)) &&& ((1431655765 : Int32)))) &&& ((858993459 : Int32))) + ((ush (a - ((ush a (nI 1)) &&& ((1431655765 : Int32)))) (nI 2)) &&& ((858993459 : Int32)))) (nI 4))) &&& ((252645135 : Int32))) (nI 8))))]) hx hb dJ6_bitCount_0f7a4_40 rfl hl (by decide) rfl (fun ls hl => ?_)
  refine lv_iload_n hx hb dJ6_bitCount_0f7a4_41 rfl (lv_at hl 0 rfl) ?_
  refine lv_iload_n hx hb dJ6_bitCount_0f7a4_42 rfl (lv_at hl 0 rfl) ?_
  refine lv_bipush (v := nI 16) hx hb dJ6_bitCount_0f7a4_43 (by decide) ?_
  refine lv_iushr (v := ush ((((((a - ((ush a (nI 1)) &&& ((1431655765 : Int32)))) &&& ((858993459 : Int32))) + ((ush (a - ((ush a (nI 1)) &&& ((1431655765 : Int32)))) (nI 2)) &&& ((858993459 : Int32)))) + (ush (((a - ((ush a (nI 1)) &&& ((1431655765 : Int32)))) &&& ((858993459 : Int32))) + ((ush (a - ((ush a (nI 1)) &&& ((1431655765 : Int32)))) (nI 2)) &&& ((858993459 : Int32)))) (nI 4))) &&& ((252645135 : Int32))) + (ush (((((a - ((ush a (nI 1)) &&& ((1431655765 : Int32)))) &&& ((858993459 : Int32))) + ((ush (a - ((ush a (nI 1)) &&& ((1431655765 : Int32)))) (nI 2)) &&& ((858993459 : Int32)))) + (ush (((a - ((ush a (nI 1)) &&& ((1431655765 : Int32)))) &&& ((858993459 : Int32))) + ((ush (a - ((ush a (nI 1)) &&& ((1431655765 : Int32)))) (nI 2)) &&& ((858993459 : Int32)))) (nI 4))) &&& ((252645135 : Int32))) (nI 8))) (nI 16)) hx hb dJ6_bitCount_0f7a4_45 rfl ?_
  refine lv_iadd hx hb dJ6_bitCount_0f7a4_46 ?_
  refine lv_istore_n (lv' := [(0, .int (((((((a - ((ush a (nI 1)) &&& ((1431655765 : Int32)))) &&& ((858993459 : Int32))) + ((ush (a - ((ush a (nI 1)) &&& ((1431655765 : Int32)))) (nI 2)) &&& ((858993459 : Int32)))) + (ush (((a - ((ush a (nI 1)) &&& ((1431655765 : Int32)))) &&& ((858993459 : Int32))) + ((ush (a - ((ush a (nI 1)) &&& ((1431655765 : Int32)))) (nI 2)) &&& ((858993459 : Int32)))) (nI 4))) &&& ((252645135 : Int32))) + (ush (((((a - ((ush a (nI 1)) &&& ((1431655765 : Int32)))) &&& ((858993459 : Int32))) + ((ush (a - ((ush a (nI 1)) &&& ((1431655765 : Int32)))) (nI 2)) &&& ((858993459 : Int32)))) + (ush (((a - ((ush a (nI 1)) &&& ((1431655765 : Int32)))) &&& ((858993459 : Int32))) + ((ush (a - ((ush a (nI 1)) &&& ((1431655765 : Int32)))) (nI 2)) &&& ((858993459 : Int32)))) (nI 4))) &&& ((252645135 : Int32))) (nI 8))) + (ush ((((((a - ((ush a (nI 1)) &&& ((1431655765 : Int32)))) &&& ((858993459 : Int32))) + ((ush (a - ((ush a (nI 1)) &&& ((1431655765 : Int32)))) (nI 2)) &&& ((858993459 : Int32)))) + (ush (((a - ((ush a (nI 1)) &&& ((1431655765 : Int32)))) &&& ((858993459 : Int32))) + ((ush (a - ((ush a (nI 1)) &&& ((1431655765 : Int32)))) (nI 2)) &&& ((858993459 : Int32)))) (nI 4))) &&& ((252645135 : Int32))) + (ush (((((a - ((ush a (nI 1)) &&& ((1431655765 : Int32)))) &&& ((858993459 : Int32))) + ((ush (a - ((ush a (nI 1)) &&& ((1431655765 : Int32)))) (nI 2)) &&& ((858993459 : Int32)))) + (ush (((a - ((ush a (nI 1)) &&& ((1431655765 : Int32)))) &&& ((858993459 : Int32))) + ((ush (a - ((ush a (nI 1)) &&& ((1431655765 : Int32)))) (nI 2)) &&& ((858993459 : Int32)))) (nI 4))) &&& ((252645135 : Int32))) (nI 8))) (nI 16))))]) hx hb dJ6_bitCount_0f7a4_47 rfl hl (by decide) rfl (fun ls hl => ?_)
  refine lv_iload_n hx hb dJ6_bitCount_0f7a4_48 rfl (lv_at hl 0 rfl) ?_
  refine lv_bipush (v := nI 63) hx hb dJ6_bitCount_0f7a4_49 (by decide) ?_
  refine lv_iand hx hb dJ6_bitCount_0f7a4_51 ?_
  exact hret _ _ _ dJ6_bitCount_0f7a4_52 (rfl)
set_option maxHeartbeats 4000000 in
set_option maxRecDepth 100000 in
theorem c_X3_isName (l : Launch) (a : Int32) : Met l yX3_isName wsX3_isName ({ frames := 0, cells := 0, slots := 0, locals := 0 }) (va_Pc [.int a] (fun _ => True)) (qR (some (.int (bI (nameB a))))) 0 0 nF := by
  refine c_ofP (cc := cX3_isName) (maxL := 1) (ret := .boolean) (by decide) rfl (nar_bI _) (Nat.le_of_ble_eq_true rfl) ?_
  intro p e s m av below meth cd Q hx hb hF hret ls hl
  have hown : s.vm.findClass RX3 = some m.cls := hF.2.2.2.1
  have hF : CallFix p m cd cX3_isName 1 s av wsX3_isName RX3 := hF
  have hts := hF.2.2.2.2
  have hl : lv_has ls 1 [(0, .int a)] := hl
  refine lv_iload_n hx hb dX3_isName_0 rfl (lv_at hl 0 rfl) ?_
  refine lv_if_lt (tgt := 14) hx hb dX3_isName_1 (by decide) (fun h1_1 => ?_) (fun h1_1 => ?_)
  · refine lv_iconst (v := nI 0) hx hb dX3_isName_14 (by decide) ?_
    exact hret _ _ _ dX3_isName_15 (by simp [nameB, bI, nI_0, h1_1])
  · refine lv_iload_n hx hb dX3_isName_4 rfl (lv_at hl 0 rfl) ?_
    refine lv_bipush (v := nI 32) hx hb dX3_isName_5 (by decide) ?_
    refine lv_icmp_ge (tgt := 14) hx hb dX3_isName_7 (by decide) (fun h7_2 => ?_) (fun h7_2 => ?_)
    · refine lv_iconst (v := nI 0) hx hb dX3_isName_14 (by decide) ?_
      exact hret _ _ _ dX3_isName_15 (by simp [nameB, bI, nI_0, h1_1, h7_2])
    · refine lv_iconst (v := nI 1) hx hb dX3_isName_10 (by decide) ?_
      refine lv_goto (tgt := 15) hx hb dX3_isName_11 (by decide) ?_
      exact hret _ _ _ dX3_isName_15 (by simp [nameB, bI, nI_0, h1_1, h7_2])
set_option maxHeartbeats 4000000 in
set_option maxRecDepth 100000 in
theorem c_X3_isValue (l : Launch) (a : Int32) : Met l yX3_isValue wsX3_isValue ({ frames := 0, cells := 0, slots := 0, locals := 0 }) (va_Pc [.int a] (fun _ => True)) (qR (some (.int (bI (valueB a))))) 0 0 nF := by
  refine c_ofP (cc := cX3_isValue) (maxL := 1) (ret := .boolean) (by decide) rfl (nar_bI _) (Nat.le_of_ble_eq_true rfl) ?_
  intro p e s m av below meth cd Q hx hb hF hret ls hl
  have hown : s.vm.findClass RX3 = some m.cls := hF.2.2.2.1
  have hF : CallFix p m cd cX3_isValue 1 s av wsX3_isValue RX3 := hF
  have hts := hF.2.2.2.2
  have hl : lv_has ls 1 [(0, .int a)] := hl
  refine lv_iload_n hx hb dX3_isValue_0 rfl (lv_at hl 0 rfl) ?_
  refine lv_if_lt (tgt := 14) hx hb dX3_isValue_1 (by decide) (fun h1_1 => ?_) (fun h1_1 => ?_)
  · refine lv_iconst (v := nI 0) hx hb dX3_isValue_14 (by decide) ?_
    exact hret _ _ _ dX3_isValue_15 (by simp [valueB, bI, nI_0, h1_1])
  · refine lv_iload_n hx hb dX3_isValue_4 rfl (lv_at hl 0 rfl) ?_
    refine lv_bipush (v := nI 30) hx hb dX3_isValue_5 (by decide) ?_
    refine lv_icmp_ge (tgt := 14) hx hb dX3_isValue_7 (by decide) (fun h7_2 => ?_) (fun h7_2 => ?_)
    · refine lv_iconst (v := nI 0) hx hb dX3_isValue_14 (by decide) ?_
      exact hret _ _ _ dX3_isValue_15 (by simp [valueB, bI, nI_0, h1_1, h7_2])
    · refine lv_iconst (v := nI 1) hx hb dX3_isValue_10 (by decide) ?_
      refine lv_goto (tgt := 15) hx hb dX3_isValue_11 (by decide) ?_
      exact hret _ _ _ dX3_isValue_15 (by simp [valueB, bI, nI_0, h1_1, h7_2])
set_option maxHeartbeats 4000000 in
set_option maxRecDepth 100000 in
theorem c_X3_isKind (l : Launch) (a : Int32) : Met l yX3_isKind wsX3_isKind ({ frames := 0, cells := 0, slots := 0, locals := 0 }) (va_Pc [.int a] (fun _ => True)) (qR (some (.int (bI (kindB a))))) 0 0 nF := by
  refine c_ofP (cc := cX3_isKind) (maxL := 1) (ret := .boolean) (by decide) rfl (nar_bI _) (Nat.le_of_ble_eq_true rfl) ?_
  intro p e s m av below meth cd Q hx hb hF hret ls hl
  have hown : s.vm.findClass RX3 = some m.cls := hF.2.2.2.1
  have hF : CallFix p m cd cX3_isKind 1 s av wsX3_isKind RX3 := hF
  have hts := hF.2.2.2.2
  have hl : lv_has ls 1 [(0, .int a)] := hl
  refine lv_iload_n hx hb dX3_isKind_0 rfl (lv_at hl 0 rfl) ?_
  refine lv_if_eq (tgt := 9) hx hb dX3_isKind_1 (by decide) (fun h1_1 => ?_) (fun h1_1 => ?_)
  · refine lv_iconst (v := nI 1) hx hb dX3_isKind_9 (by decide) ?_
    refine lv_goto (tgt := 14) hx hb dX3_isKind_10 (by decide) ?_
    exact hret _ _ _ dX3_isKind_14 (by simp [kindB, bI, nI_0, h1_1])
  · refine lv_iload_n hx hb dX3_isKind_4 rfl (lv_at hl 0 rfl) ?_
    refine lv_iconst (v := nI 1) hx hb dX3_isKind_5 (by decide) ?_
    refine lv_icmp_ne (tgt := 13) hx hb dX3_isKind_6 (by decide) (fun h6_2 => ?_) (fun h6_2 => ?_)
    · refine lv_iconst (v := nI 0) hx hb dX3_isKind_13 (by decide) ?_
      exact hret _ _ _ dX3_isKind_14 (by simp [kindB, bI, nI_0, h1_1, h6_2])
    · refine lv_iconst (v := nI 1) hx hb dX3_isKind_9 (by decide) ?_
      refine lv_goto (tgt := 14) hx hb dX3_isKind_10 (by decide) ?_
      exact hret _ _ _ dX3_isKind_14 (by simp [kindB, bI, nI_0, h1_1, h6_2])
set_option maxHeartbeats 4000000 in
set_option maxRecDepth 100000 in
theorem c_X3_isChangeable (l : Launch) (a : Int32) : Met l yX3_isChangeable wsX3_isChangeable ({ frames := 0, cells := 0, slots := 0, locals := 0 }) (va_Pc [.int a] (fun _ => True)) (qR (some (.int (bI (chgB a))))) 0 0 nF := by
  refine c_ofP (cc := cX3_isChangeable) (maxL := 1) (ret := .boolean) (by decide) rfl (nar_bI _) (Nat.le_of_ble_eq_true rfl) ?_
  intro p e s m av below meth cd Q hx hb hF hret ls hl
  have hown : s.vm.findClass RX3 = some m.cls := hF.2.2.2.1
  have hF : CallFix p m cd cX3_isChangeable 1 s av wsX3_isChangeable RX3 := hF
  have hts := hF.2.2.2.2
  have hl : lv_has ls 1 [(0, .int a)] := hl
  refine lv_iload_n hx hb dX3_isChangeable_0 rfl (lv_at hl 0 rfl) ?_
  refine lv_if_eq (tgt := 9) hx hb dX3_isChangeable_1 (by decide) (fun h1_1 => ?_) (fun h1_1 => ?_)
  · refine lv_iconst (v := nI 1) hx hb dX3_isChangeable_9 (by decide) ?_
    refine lv_goto (tgt := 14) hx hb dX3_isChangeable_10 (by decide) ?_
    exact hret _ _ _ dX3_isChangeable_14 (by simp [chgB, bI, nI_0, h1_1])
  · refine lv_iload_n hx hb dX3_isChangeable_4 rfl (lv_at hl 0 rfl) ?_
    refine lv_iconst (v := nI 1) hx hb dX3_isChangeable_5 (by decide) ?_
    refine lv_icmp_ne (tgt := 13) hx hb dX3_isChangeable_6 (by decide) (fun h6_2 => ?_) (fun h6_2 => ?_)
    · refine lv_iconst (v := nI 0) hx hb dX3_isChangeable_13 (by decide) ?_
      exact hret _ _ _ dX3_isChangeable_14 (by simp [chgB, bI, nI_0, h1_1, h6_2])
    · refine lv_iconst (v := nI 1) hx hb dX3_isChangeable_9 (by decide) ?_
      refine lv_goto (tgt := 14) hx hb dX3_isChangeable_10 (by decide) ?_
      exact hret _ _ _ dX3_isChangeable_14 (by simp [chgB, bI, nI_0, h1_1, h6_2])
set_option maxHeartbeats 4000000 in
set_option maxRecDepth 100000 in
theorem c_X3_isVersion (l : Launch) (a : Int32) : Met l yX3_isVersion wsX3_isVersion ({ frames := 1, cells := 0, slots := 0, locals := 20 }) (va_Pc [.int a] (fun _ => True)) (qR (some (.int (bI (verB a))))) 0 0 nF := by
  refine c_ofP (cc := cX3_isVersion) (maxL := 1) (ret := .boolean) (by decide) rfl (nar_bI _) (Nat.le_of_ble_eq_true rfl) ?_
  intro p e s m av below meth cd Q hx hb hF hret ls hl
  have hown : s.vm.findClass RX3 = some m.cls := hF.2.2.2.1
  have hF : CallFix p m cd cX3_isVersion 1 s av wsX3_isVersion RX3 := hF
  have hts := hF.2.2.2.2
  have hl : lv_has ls 1 [(0, .int a)] := hl
  refine lv_iload_n hx hb dX3_isVersion_0 rfl (lv_at hl 0 rfl) ?_
  refine k_Ri (va_runS (As := [.int a]) (rest := []) hF (c_X3_isChangeable l a) (va_cwS 1 hts gX3_isVersion_X3_isChangeable rfl rfl rfl (by decide +kernel) ⟨(Nat.le_of_ble_eq_true rfl), (Nat.le_of_ble_eq_true rfl)⟩) k_preS rfl rfl hl.1 rfl (lv_room (Nat.le_of_ble_eq_true rfl)) dX3_isVersion_1 ⟨Nat.zero_le _, Nat.zero_le _⟩) ?_
  refine r_ifneB (b := chgB a) (tgt := 12) hx hb dX3_isVersion_4 (by decide) (fun h4_1 => ?_) (fun h4_1 => ?_)
  · refine lv_iconst (v := nI 1) hx hb dX3_isVersion_12 (by decide) ?_
    refine lv_goto (tgt := 17) hx hb dX3_isVersion_13 (by decide) ?_
    exact hret _ _ _ dX3_isVersion_17 (by simp_all [verB, bI])
  · refine lv_iload_n hx hb dX3_isVersion_7 rfl (lv_at hl 0 rfl) ?_
    refine lv_iconst (v := nI 2) hx hb dX3_isVersion_8 (by decide) ?_
    refine lv_icmp_ne (tgt := 16) hx hb dX3_isVersion_9 (by decide) (fun h9_2 => ?_) (fun h9_2 => ?_)
    · refine lv_iconst (v := nI 0) hx hb dX3_isVersion_16 (by decide) ?_
      exact hret _ _ _ dX3_isVersion_17 (by simp_all [verB, bI])
    · refine lv_iconst (v := nI 1) hx hb dX3_isVersion_12 (by decide) ?_
      refine lv_goto (tgt := 17) hx hb dX3_isVersion_13 (by decide) ?_
      exact hret _ _ _ dX3_isVersion_17 (by simp_all [verB, bI])
