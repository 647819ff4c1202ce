set_option maxHeartbeats 4000000 in
set_option maxRecDepth 100000 in
theorem w_mergedByValues_0 (l : Launch) (D : va_G) (cI : ClassId) (cA : ClassId) (ad : Nat → Nat) (n : Nat) (x : Nat → Nat → Int32) (c : Nat) (k : Nat) (cL : ClassId) (o : Nat → Int64) (hc : c < n) (hn : n ≤ 24) (hk : k < 2) : Met l yL_mergedByValues wsL_mergedByValues ({ frames := 3, cells := 1, slots := 6, locals := 77 }) (va_Pc [.ref (ad 0), .int (nI c), .int (nI k), .ref (ad 46)] (wO D cI cA cL ad n x o)) (qO D ad (oF cI cA cL ad n x (oW o (byV (x (k + 16) c) (x (k + 18) c) (x (k + 20) c) 30).toInt64)) 47 (nI 0)) 1 6 (wA ad 47) := by
  refine c_ofO (cc := cL_mergedByValues) (maxL := 5) (hh := [(0, 10, 13, 13), (0, 10, 17, 15)]) (by decide) rfl (Nat.le_of_ble_eq_true rfl) ?_
  intro p e s m av below meth cd Q hx hb hF htab hP hK hD hT hXF hC hret ls hl
  have hown : s.vm.findClass RL = some m.cls := hF.2.2.2.1
  have hF : CallFix p m cd cL_mergedByValues 5 s av wsL_mergedByValues RL := hF
  have hts := hF.2.2.2.2
  have hl : lv_has ls 5 [(0, .ref (ad 0)), (1, .int (nI c)), (2, .int (nI k)), (3, .ref (ad 46))] := hl
  have hPc := oP_c hP
  have hKc := hK.sub (tys' := [(cI, .int), (cA, .array .int)]) [0, 1] rfl
  have hDc := oD_c hD
  refine lv_aload_n hx hb dL_mergedByValues_0 rfl (lv_at hl 3 rfl) ?_
  refine lv_iconst (v := nI 0) hx hb dL_mergedByValues_1 (by decide) ?_
  refine lv_aload_n hx hb dL_mergedByValues_2 rfl (lv_at hl 0 rfl) ?_
  refine lv_iload_n hx hb dL_mergedByValues_3 rfl (lv_at hl 1 rfl) ?_
  refine lv_iload_n hx hb dL_mergedByValues_4 rfl (lv_at hl 2 rfl) ?_
  refine k_Ri (va_runV (As := [.int (nI c), .int (nI k)]) (rest := [.int (nI 0), .ref (ad 46)]) hF (c_X3_mergedByValues l D cI cA ad n x c k hc hn hk) (cwV 2 hts gL_mergedByValues_X3_mergedByValues rfl rfl rfl (by decide +kernel) ⟨(Nat.le_of_ble_eq_true rfl), (Nat.le_of_ble_eq_true rfl)⟩) (k_pre hPc hKc hDc hT (k := 0) (by decide) cF_0 rfl) rfl rfl hl.1 rfl (lv_room (Nat.le_of_ble_eq_true rfl)) dL_mergedByValues_5 ⟨Nat.zero_le _, Nat.zero_le _⟩) ?_
  have hS : va_S (wA ad 47) s.heap s.heap [] := va_S.rf
  refine lv_i2l hx hb dL_mergedByValues_8 rfl ?_
  refine r_last hx hb hK hP hD hS rfl dL_mergedByValues_9 (fun H locs hP hS => ?_)
  refine lv_goto (tgt := 21) hx hb dL_mergedByValues_10 (by decide) ?_
  refine lv_iconst (v := nI 0) hx hb dL_mergedByValues_21 (by decide) ?_
  exact hret H locs _ _ 22 ls (nI 0) _ hP hS dL_mergedByValues_22 rfl rfl (Nat.zero_le _) (Nat.zero_le _)
set_option maxHeartbeats 4000000 in
set_option maxRecDepth 100000 in
theorem w_mergedByValues_Ta (l : Launch) (D : va_G) (cI : ClassId) (cA : ClassId) (ad : Nat → Nat) (n : Nat) (x : Nat → Nat → Int32) (a : Int32) (k : Int32) (cL : ClassId) (o : Nat → Int64) (hlt : l.stackTraces = false) (hca : cardB n a = false) : Met l yL_mergedByValues wsL_mergedByValues ({ frames := 8, cells := 1, slots := 6, locals := 125 }) (va_Pc [.ref (ad 0), .int a, .int k, .ref (ad 46)] (wO D cI cA cL ad n x o)) (qO D ad (oF cI cA cL ad n x o) 47 (nI 1)) 1 6 (wA ad 47) := by
  refine c_ofO (cc := cL_mergedByValues) (maxL := 5) (hh := [(0, 10, 13, 13), (0, 10, 17, 15)]) (by decide) rfl (Nat.le_of_ble_eq_true rfl) ?_
  intro p e s m av below meth cd Q hx hb hF htab hP hK hD hT hXF hC hret ls hl
  have hown : s.vm.findClass RL = some m.cls := hF.2.2.2.1
  have hF : CallFix p m cd cL_mergedByValues 5 s av wsL_mergedByValues RL := hF
  have hts := hF.2.2.2.2
  have hl : lv_has ls 5 [(0, .ref (ad 0)), (1, .int a), (2, .int k), (3, .ref (ad 46))] := hl
  have hPc := oP_c hP
  have hKc := hK.sub (tys' := [(cI, .int), (cA, .array .int)]) [0, 1] rfl
  have hDc := oD_c hD
  refine lv_aload_n hx hb dL_mergedByValues_0 rfl (lv_at hl 3 rfl) ?_
  refine lv_iconst (v := nI 0) hx hb dL_mergedByValues_1 (by decide) ?_
  refine lv_aload_n hx hb dL_mergedByValues_2 rfl (lv_at hl 0 rfl) ?_
  refine lv_iload_n hx hb dL_mergedByValues_3 rfl (lv_at hl 1 rfl) ?_
  refine lv_iload_n hx hb dL_mergedByValues_4 rfl (lv_at hl 2 rfl) ?_
  refine k_T (vx_runV (As := [.int a, .int k]) (rest := [.int (nI 0), .ref (ad 46)]) hF (c_X3_mergedByValues_Ta l D cI cA ad n x a k hlt hca) (cwV 2 hts gL_mergedByValues_X3_mergedByValues rfl rfl rfl (by decide +kernel) ⟨(Nat.le_of_ble_eq_true rfl), (Nat.le_of_ble_eq_true rfl)⟩) (k_preT hPc hKc hDc hT (hXF.of rfl (State.WarmedH.refl s) (fun _ _ _ => rfl) oA_c) (k := 0) (by decide) cF_0 rfl) rfl rfl hl.1 rfl (lv_room (Nat.le_of_ble_eq_true rfl)) dL_mergedByValues_5 ⟨(Nat.le_of_ble_eq_true rfl), (Nat.le_of_ble_eq_true rfl)⟩) (fun _ _ _ h => h) (fun H qx ce hz hk hce hcv hcl => ?_)
  have hP := oP_keep hP hk
  have hS : va_S (wA ad 47) s.heap H [] := ⟨hz, fun q h1 _ => hk q h1, fun _ h => by cases h⟩
  refine vx_catch (own := RL) (name := IOOB) hown (tableOf []) ⟨0, 10, 13, 13⟩ (tableOf [(0, 10, 17, 15)]) (by rw [htab]; rfl) (fun z hz => ?_) rfl (by decide) (hts (.classLink RL 13 IOOB) (by decide +kernel)) (castE hXF.2.2 (Or.inl rfl)) hce hcv hcl ?_
  · cases hz
  refine lv_astore (lv' := [(4, .ref qx), (0, .ref (ad 0)), (1, .int a), (2, .int k), (3, .ref (ad 46))]) hx hb dL_mergedByValues_13 hl (by decide) rfl (fun ls hl => ?_)
  refine lv_iconst (v := nI 1) hx hb dL_mergedByValues_15 (by decide) ?_
  exact hret H [] _ _ 16 ls (nI 1) _ hP hS dL_mergedByValues_16 rfl rfl (Nat.le_of_ble_eq_true rfl) (Nat.le_of_ble_eq_true rfl)
set_option maxHeartbeats 4000000 in
set_option maxRecDepth 100000 in
theorem w_mergedByValues_Tb (l : Launch) (D : va_G) (cI : ClassId) (cA : ClassId) (ad : Nat → Nat) (n : Nat) (x : Nat → Nat → Int32) (c : Nat) (k : Int32) (cL : ClassId) (o : Nat → Int64) (hlt : l.stackTraces = false) (hc : c < n) (hn : n ≤ 24) (hbad : (kindB k) = false) : Met l yL_mergedByValues wsL_mergedByValues ({ frames := 8, cells := 1, slots := 6, locals := 124 }) (va_Pc [.ref (ad 0), .int (nI c), .int k, .ref (ad 46)] (wO D cI cA cL ad n x o)) (qO D ad (oF cI cA cL ad n x o) 47 (nI 2)) 1 6 (wA ad 47) := by
  refine c_ofO (cc := cL_mergedByValues) (maxL := 5) (hh := [(0, 10, 13, 13), (0, 10, 17, 15)]) (by decide) rfl (Nat.le_of_ble_eq_true rfl) ?_
  intro p e s m av below meth cd Q hx hb hF htab hP hK hD hT hXF hC hret ls hl
  have hown : s.vm.findClass RL = some m.cls := hF.2.2.2.1
  have hF : CallFix p m cd cL_mergedByValues 5 s av wsL_mergedByValues RL := hF
  have hts := hF.2.2.2.2
  have hl : lv_has ls 5 [(0, .ref (ad 0)), (1, .int (nI c)), (2, .int k), (3, .ref (ad 46))] := hl
  have hPc := oP_c hP
  have hKc := hK.sub (tys' := [(cI, .int), (cA, .array .int)]) [0, 1] rfl
  have hDc := oD_c hD
  refine lv_aload_n hx hb dL_mergedByValues_0 rfl (lv_at hl 3 rfl) ?_
  refine lv_iconst (v := nI 0) hx hb dL_mergedByValues_1 (by decide) ?_
  refine lv_aload_n hx hb dL_mergedByValues_2 rfl (lv_at hl 0 rfl) ?_
  refine lv_iload_n hx hb dL_mergedByValues_3 rfl (lv_at hl 1 rfl) ?_
  refine lv_iload_n hx hb dL_mergedByValues_4 rfl (lv_at hl 2 rfl) ?_
  refine k_T (vx_runV (As := [.int (nI c), .int k]) (rest := [.int (nI 0), .ref (ad 46)]) hF (c_X3_mergedByValues_Tb l D cI cA ad n x c k hlt hc hn hbad) (cwV 2 hts gL_mergedByValues_X3_mergedByValues rfl rfl rfl (by decide +kernel) ⟨(Nat.le_of_ble_eq_true rfl), (Nat.le_of_ble_eq_true rfl)⟩) (k_preT hPc hKc hDc hT (hXF.of rfl (State.WarmedH.refl s) (fun _ _ _ => rfl) oA_c) (k := 0) (by decide) cF_0 rfl) rfl rfl hl.1 rfl (lv_room (Nat.le_of_ble_eq_true rfl)) dL_mergedByValues_5 ⟨(Nat.le_of_ble_eq_true rfl), (Nat.le_of_ble_eq_true rfl)⟩) (fun _ _ _ h => h) (fun H qx ce hz hk hce hcv hcl => ?_)
  have hP := oP_keep hP hk
  have hS : va_S (wA ad 47) s.heap H [] := ⟨hz, fun q h1 _ => hk q h1, fun _ h => by cases h⟩
  refine vx_catch (own := RL) (name := IAE) hown (tableOf [(0, 10, 13, 13)]) ⟨0, 10, 17, 15⟩ (tableOf []) (by rw [htab]; rfl) (fun z hz => ?_) rfl (by decide) (hts (.classLink RL 15 IAE) (by decide +kernel)) (castE hXF.2.2 (Or.inr (Or.inl rfl))) hce hcv hcl ?_
  · have hz : z ∈ ([⟨0, 10, 13, 13⟩] : List ExceptionTableEntry) := hz
    rcases List.mem_cons.mp hz with rfl | hz
    · exact Or.inr ⟨by decide, IOOB, hts (.classLink RL 13 IOOB) (by decide +kernel), hC.1⟩
    cases hz
  refine lv_astore (lv' := [(4, .ref qx), (0, .ref (ad 0)), (1, .int (nI c)), (2, .int k), (3, .ref (ad 46))]) hx hb dL_mergedByValues_17 hl (by decide) rfl (fun ls hl => ?_)
  refine lv_iconst (v := nI 2) hx hb dL_mergedByValues_19 (by decide) ?_
  exact hret H [] _ _ 20 ls (nI 2) _ hP hS dL_mergedByValues_20 rfl rfl (Nat.le_of_ble_eq_true rfl) (Nat.le_of_ble_eq_true rfl)
set_option maxHeartbeats 4000000 in
set_option maxRecDepth 100000 in
theorem w_unsynced_0 (l : Launch) (D : va_G) (cI : ClassId) (cA : ClassId) (ad : Nat → Nat) (n : Nat) (x : Nat → Nat → Int32) (b : Int32) (cL : ClassId) (o : Nat → Int64) (hbk : bookB b = true) (hn : n ≤ 24) : Met l yL_unsynced wsL_unsynced ({ frames := 4, cells := 1, slots := 6, locals := 96 }) (va_Pc [.ref (ad 0), .int b, .ref (ad 46)] (wO D cI cA cL ad n x o)) (qO D ad (oF cI cA cL ad n x (oW o (usC x b n).toInt64)) 47 (nI 0)) 1 6 (wA ad 47) := by
  refine c_ofO (cc := cL_unsynced) (maxL := 4) (hh := [(0, 9, 12, 13)]) (by decide) rfl (Nat.le_of_ble_eq_true rfl) ?_
  intro p e s m av below meth cd Q hx hb hF htab hP hK hD hT hXF hC hret ls hl
  have hown : s.vm.findClass RL = some m.cls := hF.2.2.2.1
  have hF : CallFix p m cd cL_unsynced 4 s av wsL_unsynced RL := hF
  have hts := hF.2.2.2.2
  have hl : lv_has ls 4 [(0, .ref (ad 0)), (1, .int b), (2, .ref (ad 46))] := hl
  have hPc := oP_c hP
  have hKc := hK.sub (tys' := [(cI, .int), (cA, .array .int)]) [0, 1] rfl
  have hDc := oD_c hD
  refine lv_aload_n hx hb dL_unsynced_0 rfl (lv_at hl 2 rfl) ?_
  refine lv_iconst (v := nI 0) hx hb dL_unsynced_1 (by decide) ?_
  refine lv_aload_n hx hb dL_unsynced_2 rfl (lv_at hl 0 rfl) ?_
  refine lv_iload_n hx hb dL_unsynced_3 rfl (lv_at hl 1 rfl) ?_
  refine k_Ri (va_runV (As := [.int b]) (rest := [.int (nI 0), .ref (ad 46)]) hF (c_X3_unsynced l D cI cA ad n x b hbk hn) (cwV 1 hts gL_unsynced_X3_unsynced rfl rfl rfl (by decide +kernel) ⟨(Nat.le_of_ble_eq_true rfl), (Nat.le_of_ble_eq_true rfl)⟩) (k_pre hPc hKc hDc hT (k := 0) (by decide) cF_0 rfl) rfl rfl hl.1 rfl (lv_room (Nat.le_of_ble_eq_true rfl)) dL_unsynced_4 ⟨Nat.zero_le _, Nat.zero_le _⟩) ?_
  have hS : va_S (wA ad 47) s.heap s.heap [] := va_S.rf
  refine lv_i2l hx hb dL_unsynced_7 rfl ?_
  refine r_last hx hb hK hP hD hS rfl dL_unsynced_8 (fun H locs hP hS => ?_)
  refine lv_goto (tgt := 15) hx hb dL_unsynced_9 (by decide) ?_
  refine lv_iconst (v := nI 0) hx hb dL_unsynced_15 (by decide) ?_
  exact hret H locs _ _ 16 ls (nI 0) _ hP hS dL_unsynced_16 rfl rfl (Nat.zero_le _) (Nat.zero_le _)
set_option maxHeartbeats 4000000 in
set_option maxRecDepth 100000 in
theorem w_unsynced_Ta (l : Launch) (D : va_G) (cI : ClassId) (cA : ClassId) (ad : Nat → Nat) (n : Nat) (x : Nat → Nat → Int32) (b : Int32) (cL : ClassId) (o : Nat → Int64) (hlt : l.stackTraces = false) (hbk : bookB b = false) : Met l yL_unsynced wsL_unsynced ({ frames := 8, cells := 1, slots := 6, locals := 126 }) (va_Pc [.ref (ad 0), .int b, .ref (ad 46)] (wO D cI cA cL ad n x o)) (qO D ad (oF cI cA cL ad n x o) 47 (nI 1)) 1 6 (wA ad 47) := by
  refine c_ofO (cc := cL_unsynced) (maxL := 4) (hh := [(0, 9, 12, 13)]) (by decide) rfl (Nat.le_of_ble_eq_true rfl) ?_
  intro p e s m av below meth cd Q hx hb hF htab hP hK hD hT hXF hC hret ls hl
  have hown : s.vm.findClass RL = some m.cls := hF.2.2.2.1
  have hF : CallFix p m cd cL_unsynced 4 s av wsL_unsynced RL := hF
  have hts := hF.2.2.2.2
  have hl : lv_has ls 4 [(0, .ref (ad 0)), (1, .int b), (2, .ref (ad 46))] := hl
  have hPc := oP_c hP
  have hKc := hK.sub (tys' := [(cI, .int), (cA, .array .int)]) [0, 1] rfl
  have hDc := oD_c hD
  refine lv_aload_n hx hb dL_unsynced_0 rfl (lv_at hl 2 rfl) ?_
  refine lv_iconst (v := nI 0) hx hb dL_unsynced_1 (by decide) ?_
  refine lv_aload_n hx hb dL_unsynced_2 rfl (lv_at hl 0 rfl) ?_
  refine lv_iload_n hx hb dL_unsynced_3 rfl (lv_at hl 1 rfl) ?_
  refine k_T (vx_runV (As := [.int b]) (rest := [.int (nI 0), .ref (ad 46)]) hF (c_X3_unsynced_Ta l D cI cA ad n x b hlt hbk) (cwV 1 hts gL_unsynced_X3_unsynced rfl rfl rfl (by decide +kernel) ⟨(Nat.le_of_ble_eq_true rfl), (Nat.le_of_ble_eq_true rfl)⟩) (k_preT hPc hKc hDc hT (hXF.of rfl (State.WarmedH.refl s) (fun _ _ _ => rfl) oA_c) (k := 0) (by decide) cF_0 rfl) rfl rfl hl.1 rfl (lv_room (Nat.le_of_ble_eq_true rfl)) dL_unsynced_4 ⟨(Nat.le_of_ble_eq_true rfl), (Nat.le_of_ble_eq_true rfl)⟩) (fun _ _ _ h => h) (fun H qx ce hz hk hce hcv hcl => ?_)
  have hP := oP_keep hP hk
  have hS : va_S (wA ad 47) s.heap H [] := ⟨hz, fun q h1 _ => hk q h1, fun _ h => by cases h⟩
  refine vx_catch (own := RL) (name := IOOB) hown (tableOf []) ⟨0, 9, 12, 13⟩ (tableOf []) (by rw [htab]; rfl) (fun z hz => ?_) rfl (by decide) (hts (.classLink RL 13 IOOB) (by decide +kernel)) (castE hXF.2.2 (Or.inl rfl)) hce hcv hcl ?_
  · cases hz
  refine lv_astore_n (lv' := [(3, .ref qx), (0, .ref (ad 0)), (1, .int b), (2, .ref (ad 46))]) hx hb dL_unsynced_12 rfl hl (by decide) rfl (fun ls hl => ?_)
  refine lv_iconst (v := nI 1) hx hb dL_unsynced_13 (by decide) ?_
  exact hret H [] _ _ 14 ls (nI 1) _ hP hS dL_unsynced_14 rfl rfl (Nat.le_of_ble_eq_true rfl) (Nat.le_of_ble_eq_true rfl)
set_option maxHeartbeats 4000000 in
set_option maxRecDepth 100000 in
theorem w_link_0 (l : Launch) (D : va_G) (cI : ClassId) (cA : ClassId) (ad : Nat → Nat) (n : Nat) (x : Nat → Nat → Int32) (c : Nat) (d : Nat) (cL : ClassId) (o : Nat → Int64) (hc : c < n) (hd : d < n) (hne : c ≠ d) (hn : n ≤ 24) (hlk : hasB (x 8 c) d = false) : Met l yL_link wsL_link ({ frames := 4, cells := 1, slots := 6, locals := 87 }) (va_Pc [.ref (ad 0), .int (nI c), .int (nI d), .ref (ad 46)] (wO D cI cA cL ad n x o)) (qO D ad (oF cI cA cL ad n (conX x c d) (oW o (bc (conX x c d 9 c)).toInt64)) 47 (nI 0)) 1 6 (wA ad 47) := by
  refine c_ofO (cc := cL_link) (maxL := 5) (hh := [(0, 10, 13, 13), (0, 10, 17, 15), (0, 10, 21, 17)]) (by decide) rfl (Nat.le_of_ble_eq_true rfl) ?_
  intro p e s m av below meth cd Q hx hb hF htab hP hK hD hT hXF hC hret ls hl
  have hown : s.vm.findClass RL = some m.cls := hF.2.2.2.1
  have hF : CallFix p m cd cL_link 5 s av wsL_link RL := hF
  have hts := hF.2.2.2.2
  have hl : lv_has ls 5 [(0, .ref (ad 0)), (1, .int (nI c)), (2, .int (nI d)), (3, .ref (ad 46))] := hl
  have hPc := oP_c hP
  have hKc := hK.sub (tys' := [(cI, .int), (cA, .array .int)]) [0, 1] rfl
  have hDc := oD_c hD
  refine lv_aload_n hx hb dL_link_0 rfl (lv_at hl 3 rfl) ?_
  refine lv_iconst (v := nI 0) hx hb dL_link_1 (by decide) ?_
  refine lv_aload_n hx hb dL_link_2 rfl (lv_at hl 0 rfl) ?_
  refine lv_iload_n hx hb dL_link_3 rfl (lv_at hl 1 rfl) ?_
  refine lv_iload_n hx hb dL_link_4 rfl (lv_at hl 2 rfl) ?_
  refine k_Wi (va_runV (As := [.int (nI c), .int (nI d)]) (rest := [.int (nI 0), .ref (ad 46)]) hF (c_X3_link l D cI cA ad n x c d hc hd hne hn hlk) (cwV 2 hts gL_link_X3_link rfl rfl rfl (by decide +kernel) ⟨(Nat.le_of_ble_eq_true rfl), (Nat.le_of_ble_eq_true rfl)⟩) (k_pre hPc hKc hDc hT (k := 0) (by decide) cF_0 rfl) rfl rfl hl.1 rfl (lv_room (Nat.le_of_ble_eq_true rfl)) dL_link_5 ⟨Nat.zero_le _, Nat.zero_le _⟩) hDc (sS.rf (A := wA ad 46)) (fun H locs hP1 hS1 => ?_)
  have hP := oP_call hD hP hP1 hS1.1.2.1
  have hS : va_S (wA ad 47) s.heap H locs := vS_up oA_c hS1.1
  refine lv_i2l hx hb dL_link_8 rfl ?_
  refine r_last hx hb hK hP hD hS rfl dL_link_9 (fun H locs hP hS => ?_)
  refine lv_goto (tgt := 25) hx hb dL_link_10 (by decide) ?_
  refine lv_iconst (v := nI 0) hx hb dL_link_25 (by decide) ?_
  exact hret H locs _ _ 26 ls (nI 0) _ hP hS dL_link_26 rfl rfl (Nat.zero_le _) (Nat.zero_le _)
set_option maxHeartbeats 4000000 in
set_option maxRecDepth 100000 in
theorem w_link_Ta (l : Launch) (D : va_G) (cI : ClassId) (cA : ClassId) (ad : Nat → Nat) (n : Nat) (x : Nat → Nat → Int32) (a : Int32) (b : Int32) (cL : ClassId) (o : Nat → Int64) (hlt : l.stackTraces = false) (hca : cardB n a = false) : Met l yL_link wsL_link ({ frames := 9, cells := 1, slots := 6, locals := 147 }) (va_Pc [.ref (ad 0), .int a, .int b, .ref (ad 46)] (wO D cI cA cL ad n x o)) (qO D ad (oF cI cA cL ad n x o) 47 (nI 1)) 1 6 (wA ad 47) := by
  refine c_ofO (cc := cL_link) (maxL := 5) (hh := [(0, 10, 13, 13), (0, 10, 17, 15), (0, 10, 21, 17)]) (by decide) rfl (Nat.le_of_ble_eq_true rfl) ?_
  intro p e s m av below meth cd Q hx hb hF htab hP hK hD hT hXF hC hret ls hl
  have hown : s.vm.findClass RL = some m.cls := hF.2.2.2.1
  have hF : CallFix p m cd cL_link 5 s av wsL_link RL := hF
  have hts := hF.2.2.2.2
  have hl : lv_has ls 5 [(0, .ref (ad 0)), (1, .int a), (2, .int b), (3, .ref (ad 46))] := hl
  have hPc := oP_c hP
  have hKc := hK.sub (tys' := [(cI, .int), (cA, .array .int)]) [0, 1] rfl
  have hDc := oD_c hD
  refine lv_aload_n hx hb dL_link_0 rfl (lv_at hl 3 rfl) ?_
  refine lv_iconst (v := nI 0) hx hb dL_link_1 (by decide) ?_
  refine lv_aload_n hx hb dL_link_2 rfl (lv_at hl 0 rfl) ?_
  refine lv_iload_n hx hb dL_link_3 rfl (lv_at hl 1 rfl) ?_
  refine lv_iload_n hx hb dL_link_4 rfl (lv_at hl 2 rfl) ?_
  refine k_T (vx_runV (As := [.int a, .int b]) (rest := [.int (nI 0), .ref (ad 46)]) hF (c_X3_link_Ta l D cI cA ad n x a b hlt hca) (cwV 2 hts gL_link_X3_link rfl rfl rfl (by decide +kernel) ⟨(Nat.le_of_ble_eq_true rfl), (Nat.le_of_ble_eq_true rfl)⟩) (k_preT hPc hKc hDc hT (hXF.of rfl (State.WarmedH.refl s) (fun _ _ _ => rfl) oA_c) (k := 0) (by decide) cF_0 rfl) rfl rfl hl.1 rfl (lv_room (Nat.le_of_ble_eq_true rfl)) dL_link_5 ⟨(Nat.le_of_ble_eq_true rfl), (Nat.le_of_ble_eq_true rfl)⟩) (fun _ _ _ h => h) (fun H qx ce hz hk hce hcv hcl => ?_)
  have hP := oP_keep hP hk
  have hS : va_S (wA ad 47) s.heap H [] := ⟨hz, fun q h1 _ => hk q h1, fun _ h => by cases h⟩
  refine vx_catch (own := RL) (name := IOOB) hown (tableOf []) ⟨0, 10, 13, 13⟩ (tableOf [(0, 10, 17, 15), (0, 10, 21, 17)]) (by rw [htab]; rfl) (fun z hz => ?_) rfl (by decide) (hts (.classLink RL 13 IOOB) (by decide +kernel)) (castE hXF.2.2 (Or.inl rfl)) hce hcv hcl ?_
  · cases hz
  refine lv_astore (lv' := [(4, .ref qx), (0, .ref (ad 0)), (1, .int a), (2, .int b), (3, .ref (ad 46))]) hx hb dL_link_13 hl (by decide) rfl (fun ls hl => ?_)
  refine lv_iconst (v := nI 1) hx hb dL_link_15 (by decide) ?_
  exact hret H [] _ _ 16 ls (nI 1) _ hP hS dL_link_16 rfl rfl (Nat.le_of_ble_eq_true rfl) (Nat.le_of_ble_eq_true rfl)
set_option maxHeartbeats 4000000 in
set_option maxRecDepth 100000 in
theorem w_link_Tb (l : Launch) (D : va_G) (cI : ClassId) (cA : ClassId) (ad : Nat → Nat) (n : Nat) (x : Nat → Nat → Int32) (c : Nat) (b : Int32) (cL : ClassId) (o : Nat → Int64) (hlt : l.stackTraces = false) (hc : c < n) (hn : n ≤ 24) (hcb : cardB n b = false) : Met l yL_link wsL_link ({ frames := 9, cells := 1, slots := 6, locals := 147 }) (va_Pc [.ref (ad 0), .int (nI c), .int b, .ref (ad 46)] (wO D cI cA cL ad n x o)) (qO D ad (oF cI cA cL ad n x o) 47 (nI 1)) 1 6 (wA ad 47) := by
  refine c_ofO (cc := cL_link) (maxL := 5) (hh := [(0, 10, 13, 13), (0, 10, 17, 15), (0, 10, 21, 17)]) (by decide) rfl (Nat.le_of_ble_eq_true rfl) ?_
  intro p e s m av below meth cd Q hx hb hF htab hP hK hD hT hXF hC hret ls hl
  have hown : s.vm.findClass RL = some m.cls := hF.2.2.2.1
  have hF : CallFix p m cd cL_link 5 s av wsL_link RL := hF
  have hts := hF.2.2.2.2
  have hl : lv_has ls 5 [(0, .ref (ad 0)), (1, .int (nI c)), (2, .int b), (3, .ref (ad 46))] := hl
  have hPc := oP_c hP
  have hKc := hK.sub (tys' := [(cI, .int), (cA, .array .int)]) [0, 1] rfl
  have hDc := oD_c hD
  refine lv_aload_n hx hb dL_link_0 rfl (lv_at hl 3 rfl) ?_
  refine lv_iconst (v := nI 0) hx hb dL_link_1 (by decide) ?_
  refine lv_aload_n hx hb dL_link_2 rfl (lv_at hl 0 rfl) ?_
  refine lv_iload_n hx hb dL_link_3 rfl (lv_at hl 1 rfl) ?_
  refine lv_iload_n hx hb dL_link_4 rfl (lv_at hl 2 rfl) ?_
  refine k_T (vx_runV (As := [.int (nI c), .int b]) (rest := [.int (nI 0), .ref (ad 46)]) hF (c_X3_link_Tb l D cI cA ad n x c b hlt hc hn hcb) (cwV 2 hts gL_link_X3_link rfl rfl rfl (by decide +kernel) ⟨(Nat.le_of_ble_eq_true rfl), (Nat.le_of_ble_eq_true rfl)⟩) (k_preT hPc hKc hDc hT (hXF.of rfl (State.WarmedH.refl s) (fun _ _ _ => rfl) oA_c) (k := 0) (by decide) cF_0 rfl) rfl rfl hl.1 rfl (lv_room (Nat.le_of_ble_eq_true rfl)) dL_link_5 ⟨(Nat.le_of_ble_eq_true rfl), (Nat.le_of_ble_eq_true rfl)⟩) (fun _ _ _ h => h) (fun H qx ce hz hk hce hcv hcl => ?_)
  have hP := oP_keep hP hk
  have hS : va_S (wA ad 47) s.heap H [] := ⟨hz, fun q h1 _ => hk q h1, fun _ h => by cases h⟩
  refine vx_catch (own := RL) (name := IOOB) hown (tableOf []) ⟨0, 10, 13, 13⟩ (tableOf [(0, 10, 17, 15), (0, 10, 21, 17)]) (by rw [htab]; rfl) (fun z hz => ?_) rfl (by decide) (hts (.classLink RL 13 IOOB) (by decide +kernel)) (castE hXF.2.2 (Or.inl rfl)) hce hcv hcl ?_
  · cases hz
  refine lv_astore (lv' := [(4, .ref qx), (0, .ref (ad 0)), (1, .int (nI c)), (2, .int b), (3, .ref (ad 46))]) hx hb dL_link_13 hl (by decide) rfl (fun ls hl => ?_)
  refine lv_iconst (v := nI 1) hx hb dL_link_15 (by decide) ?_
  exact hret H [] _ _ 16 ls (nI 1) _ hP hS dL_link_16 rfl rfl (Nat.le_of_ble_eq_true rfl) (Nat.le_of_ble_eq_true rfl)
set_option maxHeartbeats 4000000 in
set_option maxRecDepth 100000 in
theorem w_link_Tc (l : Launch) (D : va_G) (cI : ClassId) (cA : ClassId) (ad : Nat → Nat) (n : Nat) (x : Nat → Nat → Int32) (c : Nat) (cL : ClassId) (o : Nat → Int64) (hlt : l.stackTraces = false) (hc : c < n) (hn : n ≤ 24) : Met l yL_link wsL_link ({ frames := 9, cells := 1, slots := 6, locals := 146 }) (va_Pc [.ref (ad 0), .int (nI c), .int (nI c), .ref (ad 46)] (wO D cI cA cL ad n x o)) (qO D ad (oF cI cA cL ad n x o) 47 (nI 2)) 1 6 (wA ad 47) := by
  refine c_ofO (cc := cL_link) (maxL := 5) (hh := [(0, 10, 13, 13), (0, 10, 17, 15), (0, 10, 21, 17)]) (by decide) rfl (Nat.le_of_ble_eq_true rfl) ?_
  intro p e s m av below meth cd Q hx hb hF htab hP hK hD hT hXF hC hret ls hl
  have hown : s.vm.findClass RL = some m.cls := hF.2.2.2.1
  have hF : CallFix p m cd cL_link 5 s av wsL_link RL := hF
  have hts := hF.2.2.2.2
  have hl : lv_has ls 5 [(0, .ref (ad 0)), (1, .int (nI c)), (2, .int (nI c)), (3, .ref (ad 46))] := hl
  have hPc := oP_c hP
  have hKc := hK.sub (tys' := [(cI, .int), (cA, .array .int)]) [0, 1] rfl
  have hDc := oD_c hD
  refine lv_aload_n hx hb dL_link_0 rfl (lv_at hl 3 rfl) ?_
  refine lv_iconst (v := nI 0) hx hb dL_link_1 (by decide) ?_
  refine lv_aload_n hx hb dL_link_2 rfl (lv_at hl 0 rfl) ?_
  refine lv_iload_n hx hb dL_link_3 rfl (lv_at hl 1 rfl) ?_
  refine lv_iload_n hx hb dL_link_4 rfl (lv_at hl 2 rfl) ?_
  refine k_T (vx_runV (As := [.int (nI c), .int (nI c)]) (rest := [.int (nI 0), .ref (ad 46)]) hF (c_X3_link_Tc l D cI cA ad n x c hlt hc hn) (cwV 2 hts gL_link_X3_link rfl rfl rfl (by decide +kernel) ⟨(Nat.le_of_ble_eq_true rfl), (Nat.le_of_ble_eq_true rfl)⟩) (k_preT hPc hKc hDc hT (hXF.of rfl (State.WarmedH.refl s) (fun _ _ _ => rfl) oA_c) (k := 0) (by decide) cF_0 rfl) rfl rfl hl.1 rfl (lv_room (Nat.le_of_ble_eq_true rfl)) dL_link_5 ⟨(Nat.le_of_ble_eq_true rfl), (Nat.le_of_ble_eq_true rfl)⟩) (fun _ _ _ h => h) (fun H qx ce hz hk hce hcv hcl => ?_)
  have hP := oP_keep hP hk
  have hS : va_S (wA ad 47) s.heap H [] := ⟨hz, fun q h1 _ => hk q h1, fun _ h => by cases h⟩
  refine vx_catch (own := RL) (name := IAE) hown (tableOf [(0, 10, 13, 13)]) ⟨0, 10, 17, 15⟩ (tableOf [(0, 10, 21, 17)]) (by rw [htab]; rfl) (fun z hz => ?_) rfl (by decide) (hts (.classLink RL 15 IAE) (by decide +kernel)) (castE hXF.2.2 (Or.inr (Or.inl rfl))) hce hcv hcl ?_
  · have hz : z ∈ ([⟨0, 10, 13, 13⟩] : List ExceptionTableEntry) := hz
    rcases List.mem_cons.mp hz with rfl | hz
    · exact Or.inr ⟨by decide, IOOB, hts (.classLink RL 13 IOOB) (by decide +kernel), hC.1⟩
    cases hz
  refine lv_astore (lv' := [(4, .ref qx), (0, .ref (ad 0)), (1, .int (nI c)), (2, .int (nI c)), (3, .ref (ad 46))]) hx hb dL_link_17 hl (by decide) rfl (fun ls hl => ?_)
  refine lv_iconst (v := nI 2) hx hb dL_link_19 (by decide) ?_
  exact hret H [] _ _ 20 ls (nI 2) _ hP hS dL_link_20 rfl rfl (Nat.le_of_ble_eq_true rfl) (Nat.le_of_ble_eq_true rfl)
set_option maxHeartbeats 4000000 in
set_option maxRecDepth 100000 in
theorem w_link_Td (l : Launch) (D : va_G) (cI : ClassId) (cA : ClassId) (ad : Nat → Nat) (n : Nat) (x : Nat → Nat → Int32) (c : Nat) (d : Nat) (cL : ClassId) (o : Nat → Int64) (hlt : l.stackTraces = false) (hc : c < n) (hd : d < n) (hne : c ≠ d) (hn : n ≤ 24) (hlk : hasB (x 8 c) d = true) : Met l yL_link wsL_link ({ frames := 7, cells := 1, slots := 6, locals := 104 }) (va_Pc [.ref (ad 0), .int (nI c), .int (nI d), .ref (ad 46)] (wO D cI cA cL ad n x o)) (qO D ad (oF cI cA cL ad n x o) 47 (nI 3)) 1 6 (wA ad 47) := by
  refine c_ofO (cc := cL_link) (maxL := 5) (hh := [(0, 10, 13, 13), (0, 10, 17, 15), (0, 10, 21, 17)]) (by decide) rfl (Nat.le_of_ble_eq_true rfl) ?_
  intro p e s m av below meth cd Q hx hb hF htab hP hK hD hT hXF hC hret ls hl
  have hown : s.vm.findClass RL = some m.cls := hF.2.2.2.1
  have hF : CallFix p m cd cL_link 5 s av wsL_link RL := hF
  have hts := hF.2.2.2.2
  have hl : lv_has ls 5 [(0, .ref (ad 0)), (1, .int (nI c)), (2, .int (nI d)), (3, .ref (ad 46))] := hl
  have hPc := oP_c hP
  have hKc := hK.sub (tys' := [(cI, .int), (cA, .array .int)]) [0, 1] rfl
  have hDc := oD_c hD
  refine lv_aload_n hx hb dL_link_0 rfl (lv_at hl 3 rfl) ?_
  refine lv_iconst (v := nI 0) hx hb dL_link_1 (by decide) ?_
  refine lv_aload_n hx hb dL_link_2 rfl (lv_at hl 0 rfl) ?_
  refine lv_iload_n hx hb dL_link_3 rfl (lv_at hl 1 rfl) ?_
  refine lv_iload_n hx hb dL_link_4 rfl (lv_at hl 2 rfl) ?_
  refine k_T (vx_runV (As := [.int (nI c), .int (nI d)]) (rest := [.int (nI 0), .ref (ad 46)]) hF (c_X3_link_Td l D cI cA ad n x c d hlt hc hd hne hn hlk) (cwV 2 hts gL_link_X3_link rfl rfl rfl (by decide +kernel) ⟨(Nat.le_of_ble_eq_true rfl), (Nat.le_of_ble_eq_true rfl)⟩) (k_preT hPc hKc hDc hT (hXF.of rfl (State.WarmedH.refl s) (fun _ _ _ => rfl) oA_c) (k := 0) (by decide) cF_0 rfl) rfl rfl hl.1 rfl (lv_room (Nat.le_of_ble_eq_true rfl)) dL_link_5 ⟨(Nat.le_of_ble_eq_true rfl), (Nat.le_of_ble_eq_true rfl)⟩) (fun _ _ _ h => h) (fun H qx ce hz hk hce hcv hcl => ?_)
  have hP := oP_keep hP hk
  have hS : va_S (wA ad 47) s.heap H [] := ⟨hz, fun q h1 _ => hk q h1, fun _ h => by cases h⟩
  refine vx_catch (own := RL) (name := ISE) hown (tableOf [(0, 10, 13, 13), (0, 10, 17, 15)]) ⟨0, 10, 21, 17⟩ (tableOf []) (by rw [htab]; rfl) (fun z hz => ?_) rfl (by decide) (hts (.classLink RL 17 ISE) (by decide +kernel)) (castE hXF.2.2 (Or.inr (Or.inr rfl))) hce hcv hcl ?_
  · have hz : z ∈ ([⟨0, 10, 13, 13⟩, ⟨0, 10, 17, 15⟩] : List ExceptionTableEntry) := hz
    rcases List.mem_cons.mp hz with rfl | hz
    · exact Or.inr ⟨by decide, IOOB, hts (.classLink RL 13 IOOB) (by decide +kernel), hC.2.1⟩
    rcases List.mem_cons.mp hz with rfl | hz
    · exact Or.inr ⟨by decide, IAE, hts (.classLink RL 15 IAE) (by decide +kernel), hC.2.2⟩
    cases hz
  refine lv_astore (lv' := [(4, .ref qx), (0, .ref (ad 0)), (1, .int (nI c)), (2, .int (nI d)), (3, .ref (ad 46))]) hx hb dL_link_21 hl (by decide) rfl (fun ls hl => ?_)
  refine lv_iconst (v := nI 3) hx hb dL_link_23 (by decide) ?_
  exact hret H [] _ _ 24 ls (nI 3) _ hP hS dL_link_24 rfl rfl (Nat.le_of_ble_eq_true rfl) (Nat.le_of_ble_eq_true rfl)
set_option maxHeartbeats 4000000 in
set_option maxRecDepth 100000 in
theorem w_cut_0 (l : Launch) (D : va_G) (cI : ClassId) (cA : ClassId) (ad : Nat → Nat) (n : Nat) (x : Nat → Nat → Int32) (c : Nat) (d : Nat) (cL : ClassId) (o : Nat → Int64) (hc : c < n) (hd : d < n) (hn : n ≤ 24) (hlk : hasB (x 8 c) d = true) : Met l yL_cut wsL_cut ({ frames := 5, cells := 1, slots := 6, locals := 111 }) (va_Pc [.ref (ad 0), .int (nI c), .int (nI d), .ref (ad 46)] (wO D cI cA cL ad n x o)) (qO D ad (oF cI cA cL ad n (disX x c d) (oW o (bL (hasB (disX x c d 9 c) d)))) 47 (nI 0)) 1 6 (wA ad 47) := by
  refine c_ofO (cc := cL_cut) (maxL := 5) (hh := [(0, 17, 20, 13), (0, 17, 24, 17)]) (by decide) rfl (Nat.le_of_ble_eq_true rfl) ?_
  intro p e s m av below meth cd Q hx hb hF htab hP hK hD hT hXF hC hret ls hl
  have hown : s.vm.findClass RL = some m.cls := hF.2.2.2.1
  have hF : CallFix p m cd cL_cut 5 s av wsL_cut RL := hF
  have hts := hF.2.2.2.2
  have hl : lv_has ls 5 [(0, .ref (ad 0)), (1, .int (nI c)), (2, .int (nI d)), (3, .ref (ad 46))] := hl
  have hPc := oP_c hP
  have hKc := hK.sub (tys' := [(cI, .int), (cA, .array .int)]) [0, 1] rfl
  have hDc := oD_c hD
  refine lv_aload_n hx hb dL_cut_0 rfl (lv_at hl 3 rfl) ?_
  refine lv_iconst (v := nI 0) hx hb dL_cut_1 (by decide) ?_
  refine lv_aload_n hx hb dL_cut_2 rfl (lv_at hl 0 rfl) ?_
  refine lv_iload_n hx hb dL_cut_3 rfl (lv_at hl 1 rfl) ?_
  refine lv_iload_n hx hb dL_cut_4 rfl (lv_at hl 2 rfl) ?_
  refine k_Wi (va_runV (As := [.int (nI c), .int (nI d)]) (rest := [.int (nI 0), .ref (ad 46)]) hF (c_X3_cut l D cI cA ad n x c d hc hd hn hlk) (cwV 2 hts gL_cut_X3_cut rfl rfl rfl (by decide +kernel) ⟨(Nat.le_of_ble_eq_true rfl), (Nat.le_of_ble_eq_true rfl)⟩) (k_pre hPc hKc hDc hT (k := 0) (by decide) cF_0 rfl) rfl rfl hl.1 rfl (lv_room (Nat.le_of_ble_eq_true rfl)) dL_cut_5 ⟨Nat.zero_le _, Nat.zero_le _⟩) hDc (sS.rf (A := wA ad 46)) (fun H locs hP1 hS1 => ?_)
  have hP := oP_call hD hP hP1 hS1.1.2.1
  have hS : va_S (wA ad 47) s.heap H locs := vS_up oA_c hS1.1
  refine r_ifeqB (tgt := 15) hx hb dL_cut_8 (by decide) (fun hv => ?_) (fun hv => ?_)
  · refine lv_lconst (v := 0) hx hb dL_cut_15 (by decide) ?_
    refine r_last hx hb hK hP hD hS rfl dL_cut_16 (fun H locs hP hS => ?_)
    refine lv_goto (tgt := 28) hx hb dL_cut_17 (by decide) ?_
    refine lv_iconst (v := nI 0) hx hb dL_cut_28 (by decide) ?_
    exact hret H locs _ _ 29 ls (nI 0) _ hP hS dL_cut_29 rfl (by rw [show bL (hasB (disX x c d 9 c) d) = 0 by rw [hv]; rfl]) (Nat.zero_le _) (Nat.zero_le _)
  · refine lv_lconst (v := 1) hx hb dL_cut_11 (by decide) ?_
    refine lv_goto (tgt := 16) hx hb dL_cut_12 (by decide) ?_
    refine r_last hx hb hK hP hD hS rfl dL_cut_16 (fun H locs hP hS => ?_)
    refine lv_goto (tgt := 28) hx hb dL_cut_17 (by decide) ?_
    refine lv_iconst (v := nI 0) hx hb dL_cut_28 (by decide) ?_
    exact hret H locs _ _ 29 ls (nI 0) _ hP hS dL_cut_29 rfl (by rw [show bL (hasB (disX x c d 9 c) d) = 1 by rw [hv]; rfl]) (Nat.zero_le _) (Nat.zero_le _)
set_option maxHeartbeats 4000000 in
set_option maxRecDepth 100000 in
theorem w_cut_Ta (l : Launch) (D : va_G) (cI : ClassId) (cA : ClassId) (ad : Nat → Nat) (n : Nat) (x : Nat → Nat → Int32) (a : Int32) (b : Int32) (cL : ClassId) (o : Nat → Int64) (hlt : l.stackTraces = false) (hca : cardB n a = false) : Met l yL_cut wsL_cut ({ frames := 8, cells := 1, slots := 6, locals := 125 }) (va_Pc [.ref (ad 0), .int a, .int b, .ref (ad 46)] (wO D cI cA cL ad n x o)) (qO D ad (oF cI cA cL ad n x o) 47 (nI 1)) 1 6 (wA ad 47) := by
  refine c_ofO (cc := cL_cut) (maxL := 5) (hh := [(0, 17, 20, 13), (0, 17, 24, 17)]) (by decide) rfl (Nat.le_of_ble_eq_true rfl) ?_
  intro p e s m av below meth cd Q hx hb hF htab hP hK hD hT hXF hC hret ls hl
  have hown : s.vm.findClass RL = some m.cls := hF.2.2.2.1
  have hF : CallFix p m cd cL_cut 5 s av wsL_cut RL := hF
  have hts := hF.2.2.2.2
  have hl : lv_has ls 5 [(0, .ref (ad 0)), (1, .int a), (2, .int b), (3, .ref (ad 46))] := hl
  have hPc := oP_c hP
  have hKc := hK.sub (tys' := [(cI, .int), (cA, .array .int)]) [0, 1] rfl
  have hDc := oD_c hD
  refine lv_aload_n hx hb dL_cut_0 rfl (lv_at hl 3 rfl) ?_
  refine lv_iconst (v := nI 0) hx hb dL_cut_1 (by decide) ?_
  refine lv_aload_n hx hb dL_cut_2 rfl (lv_at hl 0 rfl) ?_
  refine lv_iload_n hx hb dL_cut_3 rfl (lv_at hl 1 rfl) ?_
  refine lv_iload_n hx hb dL_cut_4 rfl (lv_at hl 2 rfl) ?_
  refine k_T (vx_runV (As := [.int a, .int b]) (rest := [.int (nI 0), .ref (ad 46)]) hF (c_X3_cut_Ta l D cI cA ad n x a b hlt hca) (cwV 2 hts gL_cut_X3_cut rfl rfl rfl (by decide +kernel) ⟨(Nat.le_of_ble_eq_true rfl), (Nat.le_of_ble_eq_true rfl)⟩) (k_preT hPc hKc hDc hT (hXF.of rfl (State.WarmedH.refl s) (fun _ _ _ => rfl) oA_c) (k := 0) (by decide) cF_0 rfl) rfl rfl hl.1 rfl (lv_room (Nat.le_of_ble_eq_true rfl)) dL_cut_5 ⟨(Nat.le_of_ble_eq_true rfl), (Nat.le_of_ble_eq_true rfl)⟩) (fun _ _ _ h => h) (fun H qx ce hz hk hce hcv hcl => ?_)
  have hP := oP_keep hP hk
  have hS : va_S (wA ad 47) s.heap H [] := ⟨hz, fun q h1 _ => hk q h1, fun _ h => by cases h⟩
  refine vx_catch (own := RL) (name := IOOB) hown (tableOf []) ⟨0, 17, 20, 13⟩ (tableOf [(0, 17, 24, 17)]) (by rw [htab]; rfl) (fun z hz => ?_) rfl (by decide) (hts (.classLink RL 13 IOOB) (by decide +kernel)) (castE hXF.2.2 (Or.inl rfl)) hce hcv hcl ?_
  · cases hz
  refine lv_astore (lv' := [(4, .ref qx), (0, .ref (ad 0)), (1, .int a), (2, .int b), (3, .ref (ad 46))]) hx hb dL_cut_20 hl (by decide) rfl (fun ls hl => ?_)
  refine lv_iconst (v := nI 1) hx hb dL_cut_22 (by decide) ?_
  exact hret H [] _ _ 23 ls (nI 1) _ hP hS dL_cut_23 rfl rfl (Nat.le_of_ble_eq_true rfl) (Nat.le_of_ble_eq_true rfl)
set_option maxHeartbeats 4000000 in
set_option maxRecDepth 100000 in
theorem w_cut_Tb (l : Launch) (D : va_G) (cI : ClassId) (cA : ClassId) (ad : Nat → Nat) (n : Nat) (x : Nat → Nat → Int32) (c : Nat) (b : Int32) (cL : ClassId) (o : Nat → Int64) (hlt : l.stackTraces = false) (hc : c < n) (hn : n ≤ 24) (hcb : cardB n b = false) : Met l yL_cut wsL_cut ({ frames := 8, cells := 1, slots := 6, locals := 125 }) (va_Pc [.ref (ad 0), .int (nI c), .int b, .ref (ad 46)] (wO D cI cA cL ad n x o)) (qO D ad (oF cI cA cL ad n x o) 47 (nI 1)) 1 6 (wA ad 47) := by
  refine c_ofO (cc := cL_cut) (maxL := 5) (hh := [(0, 17, 20, 13), (0, 17, 24, 17)]) (by decide) rfl (Nat.le_of_ble_eq_true rfl) ?_
  intro p e s m av below meth cd Q hx hb hF htab hP hK hD hT hXF hC hret ls hl
  have hown : s.vm.findClass RL = some m.cls := hF.2.2.2.1
  have hF : CallFix p m cd cL_cut 5 s av wsL_cut RL := hF
  have hts := hF.2.2.2.2
  have hl : lv_has ls 5 [(0, .ref (ad 0)), (1, .int (nI c)), (2, .int b), (3, .ref (ad 46))] := hl
  have hPc := oP_c hP
  have hKc := hK.sub (tys' := [(cI, .int), (cA, .array .int)]) [0, 1] rfl
  have hDc := oD_c hD
  refine lv_aload_n hx hb dL_cut_0 rfl (lv_at hl 3 rfl) ?_
  refine lv_iconst (v := nI 0) hx hb dL_cut_1 (by decide) ?_
  refine lv_aload_n hx hb dL_cut_2 rfl (lv_at hl 0 rfl) ?_
  refine lv_iload_n hx hb dL_cut_3 rfl (lv_at hl 1 rfl) ?_
  refine lv_iload_n hx hb dL_cut_4 rfl (lv_at hl 2 rfl) ?_
  refine k_T (vx_runV (As := [.int (nI c), .int b]) (rest := [.int (nI 0), .ref (ad 46)]) hF (c_X3_cut_Tb l D cI cA ad n x c b hlt hc hn hcb) (cwV 2 hts gL_cut_X3_cut rfl rfl rfl (by decide +kernel) ⟨(Nat.le_of_ble_eq_true rfl), (Nat.le_of_ble_eq_true rfl)⟩) (k_preT hPc hKc hDc hT (hXF.of rfl (State.WarmedH.refl s) (fun _ _ _ => rfl) oA_c) (k := 0) (by decide) cF_0 rfl) rfl rfl hl.1 rfl (lv_room (Nat.le_of_ble_eq_true rfl)) dL_cut_5 ⟨(Nat.le_of_ble_eq_true rfl), (Nat.le_of_ble_eq_true rfl)⟩) (fun _ _ _ h => h) (fun H qx ce hz hk hce hcv hcl => ?_)
  have hP := oP_keep hP hk
  have hS : va_S (wA ad 47) s.heap H [] := ⟨hz, fun q h1 _ => hk q h1, fun _ h => by cases h⟩
  refine vx_catch (own := RL) (name := IOOB) hown (tableOf []) ⟨0, 17, 20, 13⟩ (tableOf [(0, 17, 24, 17)]) (by rw [htab]; rfl) (fun z hz => ?_) rfl (by decide) (hts (.classLink RL 13 IOOB) (by decide +kernel)) (castE hXF.2.2 (Or.inl rfl)) hce hcv hcl ?_
  · cases hz
  refine lv_astore (lv' := [(4, .ref qx), (0, .ref (ad 0)), (1, .int (nI c)), (2, .int b), (3, .ref (ad 46))]) hx hb dL_cut_20 hl (by decide) rfl (fun ls hl => ?_)
  refine lv_iconst (v := nI 1) hx hb dL_cut_22 (by decide) ?_
  exact hret H [] _ _ 23 ls (nI 1) _ hP hS dL_cut_23 rfl rfl (Nat.le_of_ble_eq_true rfl) (Nat.le_of_ble_eq_true rfl)
set_option maxHeartbeats 4000000 in
set_option maxRecDepth 100000 in
theorem w_cut_Tc (l : Launch) (D : va_G) (cI : ClassId) (cA : ClassId) (ad : Nat → Nat) (n : Nat) (x : Nat → Nat → Int32) (c : Nat) (d : Nat) (cL : ClassId) (o : Nat → Int64) (hlt : l.stackTraces = false) (hc : c < n) (hd : d < n) (hn : n ≤ 24) (hlk : hasB (x 8 c) d = false) : Met l yL_cut wsL_cut ({ frames := 7, cells := 1, slots := 6, locals := 104 }) (va_Pc [.ref (ad 0), .int (nI c), .int (nI d), .ref (ad 46)] (wO D cI cA cL ad n x o)) (qO D ad (oF cI cA cL ad n x o) 47 (nI 2)) 1 6 (wA ad 47) := by
  refine c_ofO (cc := cL_cut) (maxL := 5) (hh := [(0, 17, 20, 13), (0, 17, 24, 17)]) (by decide) rfl (Nat.le_of_ble_eq_true rfl) ?_
  intro p e s m av below meth cd Q hx hb hF htab hP hK hD hT hXF hC hret ls hl
  have hown : s.vm.findClass RL = some m.cls := hF.2.2.2.1
  have hF : CallFix p m cd cL_cut 5 s av wsL_cut RL := hF
  have hts := hF.2.2.2.2
  have hl : lv_has ls 5 [(0, .ref (ad 0)), (1, .int (nI c)), (2, .int (nI d)), (3, .ref (ad 46))] := hl
  have hPc := oP_c hP
  have hKc := hK.sub (tys' := [(cI, .int), (cA, .array .int)]) [0, 1] rfl
  have hDc := oD_c hD
  refine lv_aload_n hx hb dL_cut_0 rfl (lv_at hl 3 rfl) ?_
  refine lv_iconst (v := nI 0) hx hb dL_cut_1 (by decide) ?_
  refine lv_aload_n hx hb dL_cut_2 rfl (lv_at hl 0 rfl) ?_
  refine lv_iload_n hx hb dL_cut_3 rfl (lv_at hl 1 rfl) ?_
  refine lv_iload_n hx hb dL_cut_4 rfl (lv_at hl 2 rfl) ?_
  refine k_T (vx_runV (As := [.int (nI c), .int (nI d)]) (rest := [.int (nI 0), .ref (ad 46)]) hF (c_X3_cut_Tc l D cI cA ad n x c d hlt hc hd hn hlk) (cwV 2 hts gL_cut_X3_cut rfl rfl rfl (by decide +kernel) ⟨(Nat.le_of_ble_eq_true rfl), (Nat.le_of_ble_eq_true rfl)⟩) (k_preT hPc hKc hDc hT (hXF.of rfl (State.WarmedH.refl s) (fun _ _ _ => rfl) oA_c) (k := 0) (by decide) cF_0 rfl) rfl rfl hl.1 rfl (lv_room (Nat.le_of_ble_eq_true rfl)) dL_cut_5 ⟨(Nat.le_of_ble_eq_true rfl), (Nat.le_of_ble_eq_true rfl)⟩) (fun _ _ _ h => h) (fun H qx ce hz hk hce hcv hcl => ?_)
  have hP := oP_keep hP hk
  have hS : va_S (wA ad 47) s.heap H [] := ⟨hz, fun q h1 _ => hk q h1, fun _ h => by cases h⟩
  refine vx_catch (own := RL) (name := ISE) hown (tableOf [(0, 17, 20, 13)]) ⟨0, 17, 24, 17⟩ (tableOf []) (by rw [htab]; rfl) (fun z hz => ?_) rfl (by decide) (hts (.classLink RL 17 ISE) (by decide +kernel)) (castE hXF.2.2 (Or.inr (Or.inr rfl))) hce hcv hcl ?_
  · have hz : z ∈ ([⟨0, 17, 20, 13⟩] : List ExceptionTableEntry) := hz
    rcases List.mem_cons.mp hz with rfl | hz
    · exact Or.inr ⟨by decide, IOOB, hts (.classLink RL 13 IOOB) (by decide +kernel), hC.2.1⟩
    cases hz
  refine lv_astore (lv' := [(4, .ref qx), (0, .ref (ad 0)), (1, .int (nI c)), (2, .int (nI d)), (3, .ref (ad 46))]) hx hb dL_cut_24 hl (by decide) rfl (fun ls hl => ?_)
  refine lv_iconst (v := nI 2) hx hb dL_cut_26 (by decide) ?_
  exact hret H [] _ _ 27 ls (nI 2) _ hP hS dL_cut_27 rfl rfl (Nat.le_of_ble_eq_true rfl) (Nat.le_of_ble_eq_true rfl)
set_option maxHeartbeats 4000000 in
set_option maxRecDepth 100000 in
theorem w_group_0 (l : Launch) (D : va_G) (cI : ClassId) (cA : ClassId) (ad : Nat → Nat) (n : Nat) (x : Nat → Nat → Int32) (c : Nat) (cL : ClassId) (o : Nat → Int64) (hc : c < n) (hn : n ≤ 24) : Met l yL_group wsL_group ({ frames := 2, cells := 1, slots := 6, locals := 42 }) (va_Pc [.ref (ad 0), .int (nI c), .ref (ad 46)] (wO D cI cA cL ad n x o)) (qO D ad (oF cI cA cL ad n x (oW o (x 9 c).toInt64)) 47 (nI 0)) 1 6 (wA ad 47) := by
  refine c_ofO (cc := cL_group) (maxL := 4) (hh := [(0, 9, 12, 13)]) (by decide) rfl (Nat.le_of_ble_eq_true rfl) ?_
  intro p e s m av below meth cd Q hx hb hF htab hP hK hD hT hXF hC hret ls hl
  have hown : s.vm.findClass RL = some m.cls := hF.2.2.2.1
  have hF : CallFix p m cd cL_group 4 s av wsL_group RL := hF
  have hts := hF.2.2.2.2
  have hl : lv_has ls 4 [(0, .ref (ad 0)), (1, .int (nI c)), (2, .ref (ad 46))] := hl
  have hPc := oP_c hP
  have hKc := hK.sub (tys' := [(cI, .int), (cA, .array .int)]) [0, 1] rfl
  have hDc := oD_c hD
  refine lv_aload_n hx hb dL_group_0 rfl (lv_at hl 2 rfl) ?_
  refine lv_iconst (v := nI 0) hx hb dL_group_1 (by decide) ?_
  refine lv_aload_n hx hb dL_group_2 rfl (lv_at hl 0 rfl) ?_
  refine lv_iload_n hx hb dL_group_3 rfl (lv_at hl 1 rfl) ?_
  refine k_Ri (va_runV (As := [.int (nI c)]) (rest := [.int (nI 0), .ref (ad 46)]) hF (c_X3_group l D cI cA ad n x c hc hn) (cwV 1 hts gL_group_X3_group rfl rfl rfl (by decide +kernel) ⟨(Nat.le_of_ble_eq_true rfl), (Nat.le_of_ble_eq_true rfl)⟩) (k_pre hPc hKc hDc hT (k := 0) (by decide) cF_0 rfl) rfl rfl hl.1 rfl (lv_room (Nat.le_of_ble_eq_true rfl)) dL_group_4 ⟨Nat.zero_le _, Nat.zero_le _⟩) ?_
  have hS : va_S (wA ad 47) s.heap s.heap [] := va_S.rf
  refine lv_i2l hx hb dL_group_7 rfl ?_
  refine r_last hx hb hK hP hD hS rfl dL_group_8 (fun H locs hP hS => ?_)
  refine lv_goto (tgt := 15) hx hb dL_group_9 (by decide) ?_
  refine lv_iconst (v := nI 0) hx hb dL_group_15 (by decide) ?_
  exact hret H locs _ _ 16 ls (nI 0) _ hP hS dL_group_16 rfl rfl (Nat.zero_le _) (Nat.zero_le _)
set_option maxHeartbeats 4000000 in
set_option maxRecDepth 100000 in
theorem w_group_Ta (l : Launch) (D : va_G) (cI : ClassId) (cA : ClassId) (ad : Nat → Nat) (n : Nat) (x : Nat → Nat → Int32) (a : Int32) (cL : ClassId) (o : Nat → Int64) (hlt : l.stackTraces = false) (hca : cardB n a = false) : Met l yL_group wsL_group ({ frames := 8, cells := 1, slots := 6, locals := 124 }) (va_Pc [.ref (ad 0), .int a, .ref (ad 46)] (wO D cI cA cL ad n x o)) (qO D ad (oF cI cA cL ad n x o) 47 (nI 1)) 1 6 (wA ad 47) := by
  refine c_ofO (cc := cL_group) (maxL := 4) (hh := [(0, 9, 12, 13)]) (by decide) rfl (Nat.le_of_ble_eq_true rfl) ?_
  intro p e s m av below meth cd Q hx hb hF htab hP hK hD hT hXF hC hret ls hl
  have hown : s.vm.findClass RL = some m.cls := hF.2.2.2.1
  have hF : CallFix p m cd cL_group 4 s av wsL_group RL := hF
  have hts := hF.2.2.2.2
  have hl : lv_has ls 4 [(0, .ref (ad 0)), (1, .int a), (2, .ref (ad 46))] := hl
  have hPc := oP_c hP
  have hKc := hK.sub (tys' := [(cI, .int), (cA, .array .int)]) [0, 1] rfl
  have hDc := oD_c hD
  refine lv_aload_n hx hb dL_group_0 rfl (lv_at hl 2 rfl) ?_
  refine lv_iconst (v := nI 0) hx hb dL_group_1 (by decide) ?_
  refine lv_aload_n hx hb dL_group_2 rfl (lv_at hl 0 rfl) ?_
  refine lv_iload_n hx hb dL_group_3 rfl (lv_at hl 1 rfl) ?_
  refine k_T (vx_runV (As := [.int a]) (rest := [.int (nI 0), .ref (ad 46)]) hF (c_X3_group_Ta l D cI cA ad n x a hlt hca) (cwV 1 hts gL_group_X3_group rfl rfl rfl (by decide +kernel) ⟨(Nat.le_of_ble_eq_true rfl), (Nat.le_of_ble_eq_true rfl)⟩) (k_preT hPc hKc hDc hT (hXF.of rfl (State.WarmedH.refl s) (fun _ _ _ => rfl) oA_c) (k := 0) (by decide) cF_0 rfl) rfl rfl hl.1 rfl (lv_room (Nat.le_of_ble_eq_true rfl)) dL_group_4 ⟨(Nat.le_of_ble_eq_true rfl), (Nat.le_of_ble_eq_true rfl)⟩) (fun _ _ _ h => h) (fun H qx ce hz hk hce hcv hcl => ?_)
  have hP := oP_keep hP hk
  have hS : va_S (wA ad 47) s.heap H [] := ⟨hz, fun q h1 _ => hk q h1, fun _ h => by cases h⟩
  refine vx_catch (own := RL) (name := IOOB) hown (tableOf []) ⟨0, 9, 12, 13⟩ (tableOf []) (by rw [htab]; rfl) (fun z hz => ?_) rfl (by decide) (hts (.classLink RL 13 IOOB) (by decide +kernel)) (castE hXF.2.2 (Or.inl rfl)) hce hcv hcl ?_
  · cases hz
  refine lv_astore_n (lv' := [(3, .ref qx), (0, .ref (ad 0)), (1, .int a), (2, .ref (ad 46))]) hx hb dL_group_12 rfl hl (by decide) rfl (fun ls hl => ?_)
  refine lv_iconst (v := nI 1) hx hb dL_group_13 (by decide) ?_
  exact hret H [] _ _ 14 ls (nI 1) _ hP hS dL_group_14 rfl rfl (Nat.le_of_ble_eq_true rfl) (Nat.le_of_ble_eq_true rfl)
set_option maxHeartbeats 4000000 in
set_option maxRecDepth 100000 in
theorem w_preferred_0 (l : Launch) (D : va_G) (cI : ClassId) (cA : ClassId) (ad : Nat → Nat) (n : Nat) (x : Nat → Nat → Int32) (c : Nat) (cL : ClassId) (o : Nat → Int64) (hc : c < n) (hn : n ≤ 24) : Met l yL_preferred wsL_preferred ({ frames := 3, cells := 1, slots := 6, locals := 67 }) (va_Pc [.ref (ad 0), .int (nI c), .ref (ad 46)] (wO D cI cA cL ad n x o)) (qO D ad (oF cI cA cL ad n x (oW o (nI (prefF (x 4) (x 9 c) c n)).toInt64)) 47 (nI 0)) 1 6 (wA ad 47) := by
  refine c_ofO (cc := cL_preferred) (maxL := 4) (hh := [(0, 9, 12, 13)]) (by decide) rfl (Nat.le_of_ble_eq_true rfl) ?_
  intro p e s m av below meth cd Q hx hb hF htab hP hK hD hT hXF hC hret ls hl
  have hown : s.vm.findClass RL = some m.cls := hF.2.2.2.1
  have hF : CallFix p m cd cL_preferred 4 s av wsL_preferred RL := hF
  have hts := hF.2.2.2.2
  have hl : lv_has ls 4 [(0, .ref (ad 0)), (1, .int (nI c)), (2, .ref (ad 46))] := hl
  have hPc := oP_c hP
  have hKc := hK.sub (tys' := [(cI, .int), (cA, .array .int)]) [0, 1] rfl
  have hDc := oD_c hD
  refine lv_aload_n hx hb dL_preferred_0 rfl (lv_at hl 2 rfl) ?_
  refine lv_iconst (v := nI 0) hx hb dL_preferred_1 (by decide) ?_
  refine lv_aload_n hx hb dL_preferred_2 rfl (lv_at hl 0 rfl) ?_
  refine lv_iload_n hx hb dL_preferred_3 rfl (lv_at hl 1 rfl) ?_
  refine k_Ri (va_runV (As := [.int (nI c)]) (rest := [.int (nI 0), .ref (ad 46)]) hF (c_X3_preferred l D cI cA ad n x c hc hn) (cwV 1 hts gL_preferred_X3_preferred rfl rfl rfl (by decide +kernel) ⟨(Nat.le_of_ble_eq_true rfl), (Nat.le_of_ble_eq_true rfl)⟩) (k_pre hPc hKc hDc hT (k := 0) (by decide) cF_0 rfl) rfl rfl hl.1 rfl (lv_room (Nat.le_of_ble_eq_true rfl)) dL_preferred_4 ⟨Nat.zero_le _, Nat.zero_le _⟩) ?_
  have hS : va_S (wA ad 47) s.heap s.heap [] := va_S.rf
  refine lv_i2l hx hb dL_preferred_7 rfl ?_
  refine r_last hx hb hK hP hD hS rfl dL_preferred_8 (fun H locs hP hS => ?_)
  refine lv_goto (tgt := 15) hx hb dL_preferred_9 (by decide) ?_
  refine lv_iconst (v := nI 0) hx hb dL_preferred_15 (by decide) ?_
  exact hret H locs _ _ 16 ls (nI 0) _ hP hS dL_preferred_16 rfl rfl (Nat.zero_le _) (Nat.zero_le _)
set_option maxHeartbeats 4000000 in
set_option maxRecDepth 100000 in
theorem w_preferred_Ta (l : Launch) (D : va_G) (cI : ClassId) (cA : ClassId) (ad : Nat → Nat) (n : Nat) (x : Nat → Nat → Int32) (a : Int32) (cL : ClassId) (o : Nat → Int64) (hlt : l.stackTraces = false) (hca : cardB n a = false) : Met l yL_preferred wsL_preferred ({ frames := 8, cells := 1, slots := 6, locals := 124 }) (va_Pc [.ref (ad 0), .int a, .ref (ad 46)] (wO D cI cA cL ad n x o)) (qO D ad (oF cI cA cL ad n x o) 47 (nI 1)) 1 6 (wA ad 47) := by
  refine c_ofO (cc := cL_preferred) (maxL := 4) (hh := [(0, 9, 12, 13)]) (by decide) rfl (Nat.le_of_ble_eq_true rfl) ?_
  intro p e s m av below meth cd Q hx hb hF htab hP hK hD hT hXF hC hret ls hl
  have hown : s.vm.findClass RL = some m.cls := hF.2.2.2.1
  have hF : CallFix p m cd cL_preferred 4 s av wsL_preferred RL := hF
  have hts := hF.2.2.2.2
  have hl : lv_has ls 4 [(0, .ref (ad 0)), (1, .int a), (2, .ref (ad 46))] := hl
  have hPc := oP_c hP
  have hKc := hK.sub (tys' := [(cI, .int), (cA, .array .int)]) [0, 1] rfl
  have hDc := oD_c hD
  refine lv_aload_n hx hb dL_preferred_0 rfl (lv_at hl 2 rfl) ?_
  refine lv_iconst (v := nI 0) hx hb dL_preferred_1 (by decide) ?_
  refine lv_aload_n hx hb dL_preferred_2 rfl (lv_at hl 0 rfl) ?_
  refine lv_iload_n hx hb dL_preferred_3 rfl (lv_at hl 1 rfl) ?_
  refine k_T (vx_runV (As := [.int a]) (rest := [.int (nI 0), .ref (ad 46)]) hF (c_X3_preferred_Ta l D cI cA ad n x a hlt hca) (cwV 1 hts gL_preferred_X3_preferred rfl rfl rfl (by decide +kernel) ⟨(Nat.le_of_ble_eq_true rfl), (Nat.le_of_ble_eq_true rfl)⟩) (k_preT hPc hKc hDc hT (hXF.of rfl (State.WarmedH.refl s) (fun _ _ _ => rfl) oA_c) (k := 0) (by decide) cF_0 rfl) rfl rfl hl.1 rfl (lv_room (Nat.le_of_ble_eq_true rfl)) dL_preferred_4 ⟨(Nat.le_of_ble_eq_true rfl), (Nat.le_of_ble_eq_true rfl)⟩) (fun _ _ _ h => h) (fun H qx ce hz hk hce hcv hcl => ?_)
  have hP := oP_keep hP hk
  have hS : va_S (wA ad 47) s.heap H [] := ⟨hz, fun q h1 _ => hk q h1, fun _ h => by cases h⟩
  refine vx_catch (own := RL) (name := IOOB) hown (tableOf []) ⟨0, 9, 12, 13⟩ (tableOf []) (by rw [htab]; rfl) (fun z hz => ?_) rfl (by decide) (hts (.classLink RL 13 IOOB) (by decide +kernel)) (castE hXF.2.2 (Or.inl rfl)) hce hcv hcl ?_
  · cases hz
  refine lv_astore_n (lv' := [(3, .ref qx), (0, .ref (ad 0)), (1, .int a), (2, .ref (ad 46))]) hx hb dL_preferred_12 rfl hl (by decide) rfl (fun ls hl => ?_)
  refine lv_iconst (v := nI 1) hx hb dL_preferred_13 (by decide) ?_
  exact hret H [] _ _ 14 ls (nI 1) _ hP hS dL_preferred_14 rfl rfl (Nat.le_of_ble_eq_true rfl) (Nat.le_of_ble_eq_true rfl)
