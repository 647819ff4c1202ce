set_option maxHeartbeats 4000000 in
set_option maxRecDepth 100000 in
theorem w_add_0 (l : Launch) (D : va_G) (cI : ClassId) (cA : ClassId) (ad : Nat → Nat) (n : Nat) (x : Nat → Nat → Int32) (b : Int32) (w : Int32) (cL : ClassId) (o : Nat → Int64) (hbk : bookB b = true) (hnm : nameB w = true) (hn : n < 24) : Met l yL_add wsL_add ({ frames := 2, cells := 1, slots := 6, locals := 46 }) (va_Pc [.ref (ad 0), .int b, .int w, .ref (ad 46)] (wO D cI cA cL ad n x o)) (qO D ad (oF cI cA cL ad (n + 1) (appE x n b w) (oW o (nI n).toInt64)) 47 (nI 0)) 1 6 (wA ad 47) := by
  refine c_ofO (cc := cL_add) (maxL := 5) (hh := [(0, 10, 13, 13), (0, 10, 17, 15), (0, 10, 21, 17)]) (by decide) rfl (Nat.le_of_ble_eq_true rfl) ?_
  intro p e s m av below meth cd Q hx hb hF htab hP hK hD hT hXF hC hret ls hl
  have hown : s.vm.findClass RL = some m.cls := hF.2.2.2.1
  have hF : CallFix p m cd cL_add 5 s av wsL_add RL := hF
  have hts := hF.2.2.2.2
  have hl : lv_has ls 5 [(0, .ref (ad 0)), (1, .int b), (2, .int w), (3, .ref (ad 46))] := hl
  have hPc := oP_c hP
  have hKc := hK.sub (tys' := [(cI, .int), (cA, .array .int)]) [0, 1] rfl
  have hDc := oD_c hD
  refine lv_aload_n hx hb dL_add_0 rfl (lv_at hl 3 rfl) ?_
  refine lv_iconst (v := nI 0) hx hb dL_add_1 (by decide) ?_
  refine lv_aload_n hx hb dL_add_2 rfl (lv_at hl 0 rfl) ?_
  refine lv_iload_n hx hb dL_add_3 rfl (lv_at hl 1 rfl) ?_
  refine lv_iload_n hx hb dL_add_4 rfl (lv_at hl 2 rfl) ?_
  refine k_Wi (va_runV (As := [.int b, .int w]) (rest := [.int (nI 0), .ref (ad 46)]) hF (c_X3_add l D cI cA ad n x b w hbk hnm hn) (cwV 2 hts gL_add_X3_add rfl rfl rfl (by decide +kernel) ⟨(Nat.le_of_ble_eq_true rfl), (Nat.le_of_ble_eq_true rfl)⟩) (k_pre hPc hKc hDc hT (k := 0) (by decide) cF_0 rfl) rfl rfl hl.1 rfl (lv_room (Nat.le_of_ble_eq_true rfl)) dL_add_5 ⟨Nat.zero_le _, Nat.zero_le _⟩) hDc (sS.rf (A := wA ad 46)) (fun H locs hP1 hS1 => ?_)
  have hP := oP_call hD hP hP1 hS1.1.2.1
  have hS : va_S (wA ad 47) s.heap H locs := vS_up oA_c hS1.1
  refine lv_i2l hx hb dL_add_8 rfl ?_
  refine r_last hx hb hK hP hD hS rfl dL_add_9 (fun H locs hP hS => ?_)
  refine lv_goto (tgt := 25) hx hb dL_add_10 (by decide) ?_
  refine lv_iconst (v := nI 0) hx hb dL_add_25 (by decide) ?_
  exact hret H locs _ _ 26 ls (nI 0) _ hP hS dL_add_26 rfl rfl (Nat.zero_le _) (Nat.zero_le _)
set_option maxHeartbeats 4000000 in
set_option maxRecDepth 100000 in
theorem w_add_Ta (l : Launch) (D : va_G) (cI : ClassId) (cA : ClassId) (ad : Nat → Nat) (n : Nat) (x : Nat → Nat → Int32) (b : Int32) (w : Int32) (cL : ClassId) (o : Nat → Int64) (hlt : l.stackTraces = false) (hbk : bookB b = false) : Met l yL_add wsL_add ({ frames := 8, cells := 1, slots := 6, locals := 125 }) (va_Pc [.ref (ad 0), .int b, .int w, .ref (ad 46)] (wO D cI cA cL ad n x o)) (qO D ad (oF cI cA cL ad n x o) 47 (nI 1)) 1 6 (wA ad 47) := by
  refine c_ofO (cc := cL_add) (maxL := 5) (hh := [(0, 10, 13, 13), (0, 10, 17, 15), (0, 10, 21, 17)]) (by decide) rfl (Nat.le_of_ble_eq_true rfl) ?_
  intro p e s m av below meth cd Q hx hb hF htab hP hK hD hT hXF hC hret ls hl
  have hown : s.vm.findClass RL = some m.cls := hF.2.2.2.1
  have hF : CallFix p m cd cL_add 5 s av wsL_add RL := hF
  have hts := hF.2.2.2.2
  have hl : lv_has ls 5 [(0, .ref (ad 0)), (1, .int b), (2, .int w), (3, .ref (ad 46))] := hl
  have hPc := oP_c hP
  have hKc := hK.sub (tys' := [(cI, .int), (cA, .array .int)]) [0, 1] rfl
  have hDc := oD_c hD
  refine lv_aload_n hx hb dL_add_0 rfl (lv_at hl 3 rfl) ?_
  refine lv_iconst (v := nI 0) hx hb dL_add_1 (by decide) ?_
  refine lv_aload_n hx hb dL_add_2 rfl (lv_at hl 0 rfl) ?_
  refine lv_iload_n hx hb dL_add_3 rfl (lv_at hl 1 rfl) ?_
  refine lv_iload_n hx hb dL_add_4 rfl (lv_at hl 2 rfl) ?_
  refine k_T (vx_runV (As := [.int b, .int w]) (rest := [.int (nI 0), .ref (ad 46)]) hF (c_X3_add_Ta l D cI cA ad n x b w hlt hbk) (cwV 2 hts gL_add_X3_add rfl rfl rfl (by decide +kernel) ⟨(Nat.le_of_ble_eq_true rfl), (Nat.le_of_ble_eq_true rfl)⟩) (k_preT hPc hKc hDc hT (hXF.of rfl (State.WarmedH.refl s) (fun _ _ _ => rfl) oA_c) (k := 0) (by decide) cF_0 rfl) rfl rfl hl.1 rfl (lv_room (Nat.le_of_ble_eq_true rfl)) dL_add_5 ⟨(Nat.le_of_ble_eq_true rfl), (Nat.le_of_ble_eq_true rfl)⟩) (fun _ _ _ h => h) (fun H qx ce hz hk hce hcv hcl => ?_)
  have hP := oP_keep hP hk
  have hS : va_S (wA ad 47) s.heap H [] := ⟨hz, fun q h1 _ => hk q h1, fun _ h => by cases h⟩
  refine vx_catch (own := RL) (name := IOOB) hown (tableOf []) ⟨0, 10, 13, 13⟩ (tableOf [(0, 10, 17, 15), (0, 10, 21, 17)]) (by rw [htab]; rfl) (fun z hz => ?_) rfl (by decide) (hts (.classLink RL 13 IOOB) (by decide +kernel)) (castE hXF.2.2 (Or.inl rfl)) hce hcv hcl ?_
  · cases hz
  refine lv_astore (lv' := [(4, .ref qx), (0, .ref (ad 0)), (1, .int b), (2, .int w), (3, .ref (ad 46))]) hx hb dL_add_13 hl (by decide) rfl (fun ls hl => ?_)
  refine lv_iconst (v := nI 1) hx hb dL_add_15 (by decide) ?_
  exact hret H [] _ _ 16 ls (nI 1) _ hP hS dL_add_16 rfl rfl (Nat.le_of_ble_eq_true rfl) (Nat.le_of_ble_eq_true rfl)
set_option maxHeartbeats 4000000 in
set_option maxRecDepth 100000 in
theorem w_add_Tb (l : Launch) (D : va_G) (cI : ClassId) (cA : ClassId) (ad : Nat → Nat) (n : Nat) (x : Nat → Nat → Int32) (b : Int32) (w : Int32) (cL : ClassId) (o : Nat → Int64) (hlt : l.stackTraces = false) (hbk : bookB b = true) (hnm : nameB w = false) : Met l yL_add wsL_add ({ frames := 8, cells := 1, slots := 6, locals := 124 }) (va_Pc [.ref (ad 0), .int b, .int w, .ref (ad 46)] (wO D cI cA cL ad n x o)) (qO D ad (oF cI cA cL ad n x o) 47 (nI 2)) 1 6 (wA ad 47) := by
  refine c_ofO (cc := cL_add) (maxL := 5) (hh := [(0, 10, 13, 13), (0, 10, 17, 15), (0, 10, 21, 17)]) (by decide) rfl (Nat.le_of_ble_eq_true rfl) ?_
  intro p e s m av below meth cd Q hx hb hF htab hP hK hD hT hXF hC hret ls hl
  have hown : s.vm.findClass RL = some m.cls := hF.2.2.2.1
  have hF : CallFix p m cd cL_add 5 s av wsL_add RL := hF
  have hts := hF.2.2.2.2
  have hl : lv_has ls 5 [(0, .ref (ad 0)), (1, .int b), (2, .int w), (3, .ref (ad 46))] := hl
  have hPc := oP_c hP
  have hKc := hK.sub (tys' := [(cI, .int), (cA, .array .int)]) [0, 1] rfl
  have hDc := oD_c hD
  refine lv_aload_n hx hb dL_add_0 rfl (lv_at hl 3 rfl) ?_
  refine lv_iconst (v := nI 0) hx hb dL_add_1 (by decide) ?_
  refine lv_aload_n hx hb dL_add_2 rfl (lv_at hl 0 rfl) ?_
  refine lv_iload_n hx hb dL_add_3 rfl (lv_at hl 1 rfl) ?_
  refine lv_iload_n hx hb dL_add_4 rfl (lv_at hl 2 rfl) ?_
  refine k_T (vx_runV (As := [.int b, .int w]) (rest := [.int (nI 0), .ref (ad 46)]) hF (c_X3_add_Tb l D cI cA ad n x b w hlt hbk hnm) (cwV 2 hts gL_add_X3_add rfl rfl rfl (by decide +kernel) ⟨(Nat.le_of_ble_eq_true rfl), (Nat.le_of_ble_eq_true rfl)⟩) (k_preT hPc hKc hDc hT (hXF.of rfl (State.WarmedH.refl s) (fun _ _ _ => rfl) oA_c) (k := 0) (by decide) cF_0 rfl) rfl rfl hl.1 rfl (lv_room (Nat.le_of_ble_eq_true rfl)) dL_add_5 ⟨(Nat.le_of_ble_eq_true rfl), (Nat.le_of_ble_eq_true rfl)⟩) (fun _ _ _ h => h) (fun H qx ce hz hk hce hcv hcl => ?_)
  have hP := oP_keep hP hk
  have hS : va_S (wA ad 47) s.heap H [] := ⟨hz, fun q h1 _ => hk q h1, fun _ h => by cases h⟩
  refine vx_catch (own := RL) (name := IAE) hown (tableOf [(0, 10, 13, 13)]) ⟨0, 10, 17, 15⟩ (tableOf [(0, 10, 21, 17)]) (by rw [htab]; rfl) (fun z hz => ?_) rfl (by decide) (hts (.classLink RL 15 IAE) (by decide +kernel)) (castE hXF.2.2 (Or.inr (Or.inl rfl))) hce hcv hcl ?_
  · have hz : z ∈ ([⟨0, 10, 13, 13⟩] : List ExceptionTableEntry) := hz
    rcases List.mem_cons.mp hz with rfl | hz
    · exact Or.inr ⟨by decide, IOOB, hts (.classLink RL 13 IOOB) (by decide +kernel), hC.1⟩
    cases hz
  refine lv_astore (lv' := [(4, .ref qx), (0, .ref (ad 0)), (1, .int b), (2, .int w), (3, .ref (ad 46))]) hx hb dL_add_17 hl (by decide) rfl (fun ls hl => ?_)
  refine lv_iconst (v := nI 2) hx hb dL_add_19 (by decide) ?_
  exact hret H [] _ _ 20 ls (nI 2) _ hP hS dL_add_20 rfl rfl (Nat.le_of_ble_eq_true rfl) (Nat.le_of_ble_eq_true rfl)
set_option maxHeartbeats 4000000 in
set_option maxRecDepth 100000 in
theorem w_add_Tc (l : Launch) (D : va_G) (cI : ClassId) (cA : ClassId) (ad : Nat → Nat) (n : Nat) (x : Nat → Nat → Int32) (b : Int32) (w : Int32) (cL : ClassId) (o : Nat → Int64) (hlt : l.stackTraces = false) (hbk : bookB b = true) (hnm : nameB w = true) (hn : n = 24) : Met l yL_add wsL_add ({ frames := 7, cells := 1, slots := 6, locals := 104 }) (va_Pc [.ref (ad 0), .int b, .int w, .ref (ad 46)] (wO D cI cA cL ad n x o)) (qO D ad (oF cI cA cL ad n x o) 47 (nI 3)) 1 6 (wA ad 47) := by
  refine c_ofO (cc := cL_add) (maxL := 5) (hh := [(0, 10, 13, 13), (0, 10, 17, 15), (0, 10, 21, 17)]) (by decide) rfl (Nat.le_of_ble_eq_true rfl) ?_
  intro p e s m av below meth cd Q hx hb hF htab hP hK hD hT hXF hC hret ls hl
  have hown : s.vm.findClass RL = some m.cls := hF.2.2.2.1
  have hF : CallFix p m cd cL_add 5 s av wsL_add RL := hF
  have hts := hF.2.2.2.2
  have hl : lv_has ls 5 [(0, .ref (ad 0)), (1, .int b), (2, .int w), (3, .ref (ad 46))] := hl
  have hPc := oP_c hP
  have hKc := hK.sub (tys' := [(cI, .int), (cA, .array .int)]) [0, 1] rfl
  have hDc := oD_c hD
  refine lv_aload_n hx hb dL_add_0 rfl (lv_at hl 3 rfl) ?_
  refine lv_iconst (v := nI 0) hx hb dL_add_1 (by decide) ?_
  refine lv_aload_n hx hb dL_add_2 rfl (lv_at hl 0 rfl) ?_
  refine lv_iload_n hx hb dL_add_3 rfl (lv_at hl 1 rfl) ?_
  refine lv_iload_n hx hb dL_add_4 rfl (lv_at hl 2 rfl) ?_
  refine k_T (vx_runV (As := [.int b, .int w]) (rest := [.int (nI 0), .ref (ad 46)]) hF (c_X3_add_Tc l D cI cA ad n x b w hlt hbk hnm hn) (cwV 2 hts gL_add_X3_add rfl rfl rfl (by decide +kernel) ⟨(Nat.le_of_ble_eq_true rfl), (Nat.le_of_ble_eq_true rfl)⟩) (k_preT hPc hKc hDc hT (hXF.of rfl (State.WarmedH.refl s) (fun _ _ _ => rfl) oA_c) (k := 0) (by decide) cF_0 rfl) rfl rfl hl.1 rfl (lv_room (Nat.le_of_ble_eq_true rfl)) dL_add_5 ⟨(Nat.le_of_ble_eq_true rfl), (Nat.le_of_ble_eq_true rfl)⟩) (fun _ _ _ h => h) (fun H qx ce hz hk hce hcv hcl => ?_)
  have hP := oP_keep hP hk
  have hS : va_S (wA ad 47) s.heap H [] := ⟨hz, fun q h1 _ => hk q h1, fun _ h => by cases h⟩
  refine vx_catch (own := RL) (name := ISE) hown (tableOf [(0, 10, 13, 13), (0, 10, 17, 15)]) ⟨0, 10, 21, 17⟩ (tableOf []) (by rw [htab]; rfl) (fun z hz => ?_) rfl (by decide) (hts (.classLink RL 17 ISE) (by decide +kernel)) (castE hXF.2.2 (Or.inr (Or.inr rfl))) hce hcv hcl ?_
  · have hz : z ∈ ([⟨0, 10, 13, 13⟩, ⟨0, 10, 17, 15⟩] : List ExceptionTableEntry) := hz
    rcases List.mem_cons.mp hz with rfl | hz
    · exact Or.inr ⟨by decide, IOOB, hts (.classLink RL 13 IOOB) (by decide +kernel), hC.2.1⟩
    rcases List.mem_cons.mp hz with rfl | hz
    · exact Or.inr ⟨by decide, IAE, hts (.classLink RL 15 IAE) (by decide +kernel), hC.2.2⟩
    cases hz
  refine lv_astore (lv' := [(4, .ref qx), (0, .ref (ad 0)), (1, .int b), (2, .int w), (3, .ref (ad 46))]) hx hb dL_add_21 hl (by decide) rfl (fun ls hl => ?_)
  refine lv_iconst (v := nI 3) hx hb dL_add_23 (by decide) ?_
  exact hret H [] _ _ 24 ls (nI 3) _ hP hS dL_add_24 rfl rfl (Nat.le_of_ble_eq_true rfl) (Nat.le_of_ble_eq_true rfl)
set_option maxHeartbeats 4000000 in
set_option maxRecDepth 100000 in
theorem w_turn_0 (l : Launch) (D : va_G) (cI : ClassId) (cA : ClassId) (ad : Nat → Nat) (n : Nat) (x : Nat → Nat → Int32) (c : Nat) (v : Nat) (k : Nat) (w : Nat) (cL : ClassId) (o : Nat → Int64) (hc : c < n) (hn : n ≤ 24) (hv : v < 2) (hk : k < 2) (hw : w < 30) : Met l yL_turn wsL_turn ({ frames := 3, cells := 1, slots := 6, locals := 72 }) (va_Pc [.ref (ad 0), .int (nI c), .int (nI v), .int (nI k), .int (nI w), .ref (ad 46)] (wO D cI cA cL ad n x o)) (qO D ad (oF cI cA cL ad n (putS x c v k (x (2 * v + k + 16) c ^^^ bit w)) (oW o (bL (hasB (x (2 * v + k + 16) c ^^^ bit w) w)))) 47 (nI 0)) 1 6 (wA ad 47) := by
  refine c_ofO (cc := cL_turn) (maxL := 7) (hh := [(0, 21, 24, 13), (0, 21, 28, 15)]) (by decide) rfl (Nat.le_of_ble_eq_true rfl) ?_
  intro p e s m av below meth cd Q hx hb hF htab hP hK hD hT hXF hC hret ls hl
  have hown : s.vm.findClass RL = some m.cls := hF.2.2.2.1
  have hF : CallFix p m cd cL_turn 7 s av wsL_turn RL := hF
  have hts := hF.2.2.2.2
  have hl : lv_has ls 7 [(0, .ref (ad 0)), (1, .int (nI c)), (2, .int (nI v)), (3, .int (nI k)), (4, .int (nI w)), (5, .ref (ad 46))] := hl
  have hPc := oP_c hP
  have hKc := hK.sub (tys' := [(cI, .int), (cA, .array .int)]) [0, 1] rfl
  have hDc := oD_c hD
  refine lv_aload hx hb dL_turn_0 (lv_at hl 5 rfl) ?_
  refine lv_iconst (v := nI 0) hx hb dL_turn_2 (by decide) ?_
  refine lv_aload_n hx hb dL_turn_3 rfl (lv_at hl 0 rfl) ?_
  refine lv_iload_n hx hb dL_turn_4 rfl (lv_at hl 1 rfl) ?_
  refine lv_iload_n hx hb dL_turn_5 rfl (lv_at hl 2 rfl) ?_
  refine lv_iload_n hx hb dL_turn_6 rfl (lv_at hl 3 rfl) ?_
  refine lv_iload hx hb dL_turn_7 (lv_at hl 4 rfl) ?_
  refine k_Wi (va_runV (As := [.int (nI c), .int (nI v), .int (nI k), .int (nI w)]) (rest := [.int (nI 0), .ref (ad 46)]) hF (c_X3_turn l D cI cA ad n x c v k w hc hn hv hk hw) (cwV 4 hts gL_turn_X3_turn rfl rfl rfl (by decide +kernel) ⟨(Nat.le_of_ble_eq_true rfl), (Nat.le_of_ble_eq_true rfl)⟩) (k_pre hPc hKc hDc hT (k := 0) (by decide) cF_0 rfl) rfl rfl hl.1 rfl (lv_room (Nat.le_of_ble_eq_true rfl)) dL_turn_9 ⟨Nat.zero_le _, Nat.zero_le _⟩) hDc (sS.rf (A := wA ad 46)) (fun H locs hP1 hS1 => ?_)
  have hP := oP_call hD hP hP1 hS1.1.2.1
  have hS : va_S (wA ad 47) s.heap H locs := vS_up oA_c hS1.1
  refine r_ifeqB (tgt := 19) hx hb dL_turn_12 (by decide) (fun hv => ?_) (fun hv => ?_)
  · refine lv_lconst (v := 0) hx hb dL_turn_19 (by decide) ?_
    refine r_last hx hb hK hP hD hS rfl dL_turn_20 (fun H locs hP hS => ?_)
    refine lv_goto (tgt := 32) hx hb dL_turn_21 (by decide) ?_
    refine lv_iconst (v := nI 0) hx hb dL_turn_32 (by decide) ?_
    exact hret H locs _ _ 33 ls (nI 0) _ hP hS dL_turn_33 rfl (by rw [show bL (hasB (x (2 * v + k + 16) c ^^^ bit w) w) = 0 by rw [hv]; rfl]) (Nat.zero_le _) (Nat.zero_le _)
  · refine lv_lconst (v := 1) hx hb dL_turn_15 (by decide) ?_
    refine lv_goto (tgt := 20) hx hb dL_turn_16 (by decide) ?_
    refine r_last hx hb hK hP hD hS rfl dL_turn_20 (fun H locs hP hS => ?_)
    refine lv_goto (tgt := 32) hx hb dL_turn_21 (by decide) ?_
    refine lv_iconst (v := nI 0) hx hb dL_turn_32 (by decide) ?_
    exact hret H locs _ _ 33 ls (nI 0) _ hP hS dL_turn_33 rfl (by rw [show bL (hasB (x (2 * v + k + 16) c ^^^ bit w) w) = 1 by rw [hv]; rfl]) (Nat.zero_le _) (Nat.zero_le _)
set_option maxHeartbeats 4000000 in
set_option maxRecDepth 100000 in
theorem w_turn_Ta (l : Launch) (D : va_G) (cI : ClassId) (cA : ClassId) (ad : Nat → Nat) (n : Nat) (x : Nat → Nat → Int32) (a : Int32) (v : Int32) (k : Int32) (w : Int32) (cL : ClassId) (o : Nat → Int64) (hlt : l.stackTraces = false) (hca : cardB n a = false) : Met l yL_turn wsL_turn ({ frames := 8, cells := 1, slots := 6, locals := 128 }) (va_Pc [.ref (ad 0), .int a, .int v, .int k, .int w, .ref (ad 46)] (wO D cI cA cL ad n x o)) (qO D ad (oF cI cA cL ad n x o) 47 (nI 1)) 1 6 (wA ad 47) := by
  refine c_ofO (cc := cL_turn) (maxL := 7) (hh := [(0, 21, 24, 13), (0, 21, 28, 15)]) (by decide) rfl (Nat.le_of_ble_eq_true rfl) ?_
  intro p e s m av below meth cd Q hx hb hF htab hP hK hD hT hXF hC hret ls hl
  have hown : s.vm.findClass RL = some m.cls := hF.2.2.2.1
  have hF : CallFix p m cd cL_turn 7 s av wsL_turn RL := hF
  have hts := hF.2.2.2.2
  have hl : lv_has ls 7 [(0, .ref (ad 0)), (1, .int a), (2, .int v), (3, .int k), (4, .int w), (5, .ref (ad 46))] := hl
  have hPc := oP_c hP
  have hKc := hK.sub (tys' := [(cI, .int), (cA, .array .int)]) [0, 1] rfl
  have hDc := oD_c hD
  refine lv_aload hx hb dL_turn_0 (lv_at hl 5 rfl) ?_
  refine lv_iconst (v := nI 0) hx hb dL_turn_2 (by decide) ?_
  refine lv_aload_n hx hb dL_turn_3 rfl (lv_at hl 0 rfl) ?_
  refine lv_iload_n hx hb dL_turn_4 rfl (lv_at hl 1 rfl) ?_
  refine lv_iload_n hx hb dL_turn_5 rfl (lv_at hl 2 rfl) ?_
  refine lv_iload_n hx hb dL_turn_6 rfl (lv_at hl 3 rfl) ?_
  refine lv_iload hx hb dL_turn_7 (lv_at hl 4 rfl) ?_
  refine k_T (vx_runV (As := [.int a, .int v, .int k, .int w]) (rest := [.int (nI 0), .ref (ad 46)]) hF (c_X3_turn_Ta l D cI cA ad n x a v k w hlt hca) (cwV 4 hts gL_turn_X3_turn rfl rfl rfl (by decide +kernel) ⟨(Nat.le_of_ble_eq_true rfl), (Nat.le_of_ble_eq_true rfl)⟩) (k_preT hPc hKc hDc hT (hXF.of rfl (State.WarmedH.refl s) (fun _ _ _ => rfl) oA_c) (k := 0) (by decide) cF_0 rfl) rfl rfl hl.1 rfl (lv_room (Nat.le_of_ble_eq_true rfl)) dL_turn_9 ⟨(Nat.le_of_ble_eq_true rfl), (Nat.le_of_ble_eq_true rfl)⟩) (fun _ _ _ h => h) (fun H qx ce hz hk hce hcv hcl => ?_)
  have hP := oP_keep hP hk
  have hS : va_S (wA ad 47) s.heap H [] := ⟨hz, fun q h1 _ => hk q h1, fun _ h => by cases h⟩
  refine vx_catch (own := RL) (name := IOOB) hown (tableOf []) ⟨0, 21, 24, 13⟩ (tableOf [(0, 21, 28, 15)]) (by rw [htab]; rfl) (fun z hz => ?_) rfl (by decide) (hts (.classLink RL 13 IOOB) (by decide +kernel)) (castE hXF.2.2 (Or.inl rfl)) hce hcv hcl ?_
  · cases hz
  refine lv_astore (lv' := [(6, .ref qx), (0, .ref (ad 0)), (1, .int a), (2, .int v), (3, .int k), (4, .int w), (5, .ref (ad 46))]) hx hb dL_turn_24 hl (by decide) rfl (fun ls hl => ?_)
  refine lv_iconst (v := nI 1) hx hb dL_turn_26 (by decide) ?_
  exact hret H [] _ _ 27 ls (nI 1) _ hP hS dL_turn_27 rfl rfl (Nat.le_of_ble_eq_true rfl) (Nat.le_of_ble_eq_true rfl)
set_option maxHeartbeats 4000000 in
set_option maxRecDepth 100000 in
theorem w_turn_Tb (l : Launch) (D : va_G) (cI : ClassId) (cA : ClassId) (ad : Nat → Nat) (n : Nat) (x : Nat → Nat → Int32) (c : Nat) (v : Int32) (k : Int32) (w : Int32) (cL : ClassId) (o : Nat → Int64) (hlt : l.stackTraces = false) (hc : c < n) (hn : n ≤ 24) (hbad : (chgB v && kindB k && valueB w) = false) : Met l yL_turn wsL_turn ({ frames := 8, cells := 1, slots := 6, locals := 127 }) (va_Pc [.ref (ad 0), .int (nI c), .int v, .int k, .int w, .ref (ad 46)] (wO D cI cA cL ad n x o)) (qO D ad (oF cI cA cL ad n x o) 47 (nI 2)) 1 6 (wA ad 47) := by
  refine c_ofO (cc := cL_turn) (maxL := 7) (hh := [(0, 21, 24, 13), (0, 21, 28, 15)]) (by decide) rfl (Nat.le_of_ble_eq_true rfl) ?_
  intro p e s m av below meth cd Q hx hb hF htab hP hK hD hT hXF hC hret ls hl
  have hown : s.vm.findClass RL = some m.cls := hF.2.2.2.1
  have hF : CallFix p m cd cL_turn 7 s av wsL_turn RL := hF
  have hts := hF.2.2.2.2
  have hl : lv_has ls 7 [(0, .ref (ad 0)), (1, .int (nI c)), (2, .int v), (3, .int k), (4, .int w), (5, .ref (ad 46))] := hl
  have hPc := oP_c hP
  have hKc := hK.sub (tys' := [(cI, .int), (cA, .array .int)]) [0, 1] rfl
  have hDc := oD_c hD
  refine lv_aload hx hb dL_turn_0 (lv_at hl 5 rfl) ?_
  refine lv_iconst (v := nI 0) hx hb dL_turn_2 (by decide) ?_
  refine lv_aload_n hx hb dL_turn_3 rfl (lv_at hl 0 rfl) ?_
  refine lv_iload_n hx hb dL_turn_4 rfl (lv_at hl 1 rfl) ?_
  refine lv_iload_n hx hb dL_turn_5 rfl (lv_at hl 2 rfl) ?_
  refine lv_iload_n hx hb dL_turn_6 rfl (lv_at hl 3 rfl) ?_
  refine lv_iload hx hb dL_turn_7 (lv_at hl 4 rfl) ?_
  refine k_T (vx_runV (As := [.int (nI c), .int v, .int k, .int w]) (rest := [.int (nI 0), .ref (ad 46)]) hF (c_X3_turn_Tb l D cI cA ad n x c v k w hlt hc hn hbad) (cwV 4 hts gL_turn_X3_turn rfl rfl rfl (by decide +kernel) ⟨(Nat.le_of_ble_eq_true rfl), (Nat.le_of_ble_eq_true rfl)⟩) (k_preT hPc hKc hDc hT (hXF.of rfl (State.WarmedH.refl s) (fun _ _ _ => rfl) oA_c) (k := 0) (by decide) cF_0 rfl) rfl rfl hl.1 rfl (lv_room (Nat.le_of_ble_eq_true rfl)) dL_turn_9 ⟨(Nat.le_of_ble_eq_true rfl), (Nat.le_of_ble_eq_true rfl)⟩) (fun _ _ _ h => h) (fun H qx ce hz hk hce hcv hcl => ?_)
  have hP := oP_keep hP hk
  have hS : va_S (wA ad 47) s.heap H [] := ⟨hz, fun q h1 _ => hk q h1, fun _ h => by cases h⟩
  refine vx_catch (own := RL) (name := IAE) hown (tableOf [(0, 21, 24, 13)]) ⟨0, 21, 28, 15⟩ (tableOf []) (by rw [htab]; rfl) (fun z hz => ?_) rfl (by decide) (hts (.classLink RL 15 IAE) (by decide +kernel)) (castE hXF.2.2 (Or.inr (Or.inl rfl))) hce hcv hcl ?_
  · have hz : z ∈ ([⟨0, 21, 24, 13⟩] : List ExceptionTableEntry) := hz
    rcases List.mem_cons.mp hz with rfl | hz
    · exact Or.inr ⟨by decide, IOOB, hts (.classLink RL 13 IOOB) (by decide +kernel), hC.1⟩
    cases hz
  refine lv_astore (lv' := [(6, .ref qx), (0, .ref (ad 0)), (1, .int (nI c)), (2, .int v), (3, .int k), (4, .int w), (5, .ref (ad 46))]) hx hb dL_turn_28 hl (by decide) rfl (fun ls hl => ?_)
  refine lv_iconst (v := nI 2) hx hb dL_turn_30 (by decide) ?_
  exact hret H [] _ _ 31 ls (nI 2) _ hP hS dL_turn_31 rfl rfl (Nat.le_of_ble_eq_true rfl) (Nat.le_of_ble_eq_true rfl)
set_option maxHeartbeats 4000000 in
set_option maxRecDepth 100000 in
theorem w_rename_0 (l : Launch) (D : va_G) (cI : ClassId) (cA : ClassId) (ad : Nat → Nat) (n : Nat) (x : Nat → Nat → Int32) (c : Nat) (v : Nat) (w : Int32) (cL : ClassId) (o : Nat → Int64) (hc : c < n) (hn : n ≤ 24) (hv : v < 2) (hnm : nameB w = true) : Met l yL_rename wsL_rename ({ frames := 2, cells := 1, slots := 6, locals := 47 }) (va_Pc [.ref (ad 0), .int (nI c), .int (nI v), .int w, .ref (ad 46)] (wO D cI cA cL ad n x o)) (qO D ad (oF cI cA cL ad n (putN x c v w) (oW o (x (v + 13) c).toInt64)) 47 (nI 0)) 1 6 (wA ad 47) := by
  refine c_ofO (cc := cL_rename) (maxL := 6) (hh := [(0, 12, 15, 13), (0, 12, 19, 15)]) (by decide) rfl (Nat.le_of_ble_eq_true rfl) ?_
  intro p e s m av below meth cd Q hx hb hF htab hP hK hD hT hXF hC hret ls hl
  have hown : s.vm.findClass RL = some m.cls := hF.2.2.2.1
  have hF : CallFix p m cd cL_rename 6 s av wsL_rename RL := hF
  have hts := hF.2.2.2.2
  have hl : lv_has ls 6 [(0, .ref (ad 0)), (1, .int (nI c)), (2, .int (nI v)), (3, .int w), (4, .ref (ad 46))] := hl
  have hPc := oP_c hP
  have hKc := hK.sub (tys' := [(cI, .int), (cA, .array .int)]) [0, 1] rfl
  have hDc := oD_c hD
  refine lv_aload hx hb dL_rename_0 (lv_at hl 4 rfl) ?_
  refine lv_iconst (v := nI 0) hx hb dL_rename_2 (by decide) ?_
  refine lv_aload_n hx hb dL_rename_3 rfl (lv_at hl 0 rfl) ?_
  refine lv_iload_n hx hb dL_rename_4 rfl (lv_at hl 1 rfl) ?_
  refine lv_iload_n hx hb dL_rename_5 rfl (lv_at hl 2 rfl) ?_
  refine lv_iload_n hx hb dL_rename_6 rfl (lv_at hl 3 rfl) ?_
  refine k_Wi (va_runV (As := [.int (nI c), .int (nI v), .int w]) (rest := [.int (nI 0), .ref (ad 46)]) hF (c_X3_rename l D cI cA ad n x c v w hc hn hv hnm) (cwV 3 hts gL_rename_X3_rename rfl rfl rfl (by decide +kernel) ⟨(Nat.le_of_ble_eq_true rfl), (Nat.le_of_ble_eq_true rfl)⟩) (k_pre hPc hKc hDc hT (k := 0) (by decide) cF_0 rfl) rfl rfl hl.1 rfl (lv_room (Nat.le_of_ble_eq_true rfl)) dL_rename_7 ⟨Nat.zero_le _, Nat.zero_le _⟩) hDc (sS.rf (A := wA ad 46)) (fun H locs hP1 hS1 => ?_)
  have hP := oP_call hD hP hP1 hS1.1.2.1
  have hS : va_S (wA ad 47) s.heap H locs := vS_up oA_c hS1.1
  refine lv_i2l hx hb dL_rename_10 rfl ?_
  refine r_last hx hb hK hP hD hS rfl dL_rename_11 (fun H locs hP hS => ?_)
  refine lv_goto (tgt := 23) hx hb dL_rename_12 (by decide) ?_
  refine lv_iconst (v := nI 0) hx hb dL_rename_23 (by decide) ?_
  exact hret H locs _ _ 24 ls (nI 0) _ hP hS dL_rename_24 rfl rfl (Nat.zero_le _) (Nat.zero_le _)
set_option maxHeartbeats 4000000 in
set_option maxRecDepth 100000 in
theorem w_rename_Ta (l : Launch) (D : va_G) (cI : ClassId) (cA : ClassId) (ad : Nat → Nat) (n : Nat) (x : Nat → Nat → Int32) (a : Int32) (v : Int32) (w : Int32) (cL : ClassId) (o : Nat → Int64) (hlt : l.stackTraces = false) (hca : cardB n a = false) : Met l yL_rename wsL_rename ({ frames := 8, cells := 1, slots := 6, locals := 127 }) (va_Pc [.ref (ad 0), .int a, .int v, .int w, .ref (ad 46)] (wO D cI cA cL ad n x o)) (qO D ad (oF cI cA cL ad n x o) 47 (nI 1)) 1 6 (wA ad 47) := by
  refine c_ofO (cc := cL_rename) (maxL := 6) (hh := [(0, 12, 15, 13), (0, 12, 19, 15)]) (by decide) rfl (Nat.le_of_ble_eq_true rfl) ?_
  intro p e s m av below meth cd Q hx hb hF htab hP hK hD hT hXF hC hret ls hl
  have hown : s.vm.findClass RL = some m.cls := hF.2.2.2.1
  have hF : CallFix p m cd cL_rename 6 s av wsL_rename RL := hF
  have hts := hF.2.2.2.2
  have hl : lv_has ls 6 [(0, .ref (ad 0)), (1, .int a), (2, .int v), (3, .int w), (4, .ref (ad 46))] := hl
  have hPc := oP_c hP
  have hKc := hK.sub (tys' := [(cI, .int), (cA, .array .int)]) [0, 1] rfl
  have hDc := oD_c hD
  refine lv_aload hx hb dL_rename_0 (lv_at hl 4 rfl) ?_
  refine lv_iconst (v := nI 0) hx hb dL_rename_2 (by decide) ?_
  refine lv_aload_n hx hb dL_rename_3 rfl (lv_at hl 0 rfl) ?_
  refine lv_iload_n hx hb dL_rename_4 rfl (lv_at hl 1 rfl) ?_
  refine lv_iload_n hx hb dL_rename_5 rfl (lv_at hl 2 rfl) ?_
  refine lv_iload_n hx hb dL_rename_6 rfl (lv_at hl 3 rfl) ?_
  refine k_T (vx_runV (As := [.int a, .int v, .int w]) (rest := [.int (nI 0), .ref (ad 46)]) hF (c_X3_rename_Ta l D cI cA ad n x a v w hlt hca) (cwV 3 hts gL_rename_X3_rename rfl rfl rfl (by decide +kernel) ⟨(Nat.le_of_ble_eq_true rfl), (Nat.le_of_ble_eq_true rfl)⟩) (k_preT hPc hKc hDc hT (hXF.of rfl (State.WarmedH.refl s) (fun _ _ _ => rfl) oA_c) (k := 0) (by decide) cF_0 rfl) rfl rfl hl.1 rfl (lv_room (Nat.le_of_ble_eq_true rfl)) dL_rename_7 ⟨(Nat.le_of_ble_eq_true rfl), (Nat.le_of_ble_eq_true rfl)⟩) (fun _ _ _ h => h) (fun H qx ce hz hk hce hcv hcl => ?_)
  have hP := oP_keep hP hk
  have hS : va_S (wA ad 47) s.heap H [] := ⟨hz, fun q h1 _ => hk q h1, fun _ h => by cases h⟩
  refine vx_catch (own := RL) (name := IOOB) hown (tableOf []) ⟨0, 12, 15, 13⟩ (tableOf [(0, 12, 19, 15)]) (by rw [htab]; rfl) (fun z hz => ?_) rfl (by decide) (hts (.classLink RL 13 IOOB) (by decide +kernel)) (castE hXF.2.2 (Or.inl rfl)) hce hcv hcl ?_
  · cases hz
  refine lv_astore (lv' := [(5, .ref qx), (0, .ref (ad 0)), (1, .int a), (2, .int v), (3, .int w), (4, .ref (ad 46))]) hx hb dL_rename_15 hl (by decide) rfl (fun ls hl => ?_)
  refine lv_iconst (v := nI 1) hx hb dL_rename_17 (by decide) ?_
  exact hret H [] _ _ 18 ls (nI 1) _ hP hS dL_rename_18 rfl rfl (Nat.le_of_ble_eq_true rfl) (Nat.le_of_ble_eq_true rfl)
set_option maxHeartbeats 4000000 in
set_option maxRecDepth 100000 in
theorem w_rename_Tb (l : Launch) (D : va_G) (cI : ClassId) (cA : ClassId) (ad : Nat → Nat) (n : Nat) (x : Nat → Nat → Int32) (c : Nat) (v : Int32) (w : Int32) (cL : ClassId) (o : Nat → Int64) (hlt : l.stackTraces = false) (hc : c < n) (hn : n ≤ 24) (hbad : (chgB v && nameB w) = false) : Met l yL_rename wsL_rename ({ frames := 8, cells := 1, slots := 6, locals := 126 }) (va_Pc [.ref (ad 0), .int (nI c), .int v, .int w, .ref (ad 46)] (wO D cI cA cL ad n x o)) (qO D ad (oF cI cA cL ad n x o) 47 (nI 2)) 1 6 (wA ad 47) := by
  refine c_ofO (cc := cL_rename) (maxL := 6) (hh := [(0, 12, 15, 13), (0, 12, 19, 15)]) (by decide) rfl (Nat.le_of_ble_eq_true rfl) ?_
  intro p e s m av below meth cd Q hx hb hF htab hP hK hD hT hXF hC hret ls hl
  have hown : s.vm.findClass RL = some m.cls := hF.2.2.2.1
  have hF : CallFix p m cd cL_rename 6 s av wsL_rename RL := hF
  have hts := hF.2.2.2.2
  have hl : lv_has ls 6 [(0, .ref (ad 0)), (1, .int (nI c)), (2, .int v), (3, .int w), (4, .ref (ad 46))] := hl
  have hPc := oP_c hP
  have hKc := hK.sub (tys' := [(cI, .int), (cA, .array .int)]) [0, 1] rfl
  have hDc := oD_c hD
  refine lv_aload hx hb dL_rename_0 (lv_at hl 4 rfl) ?_
  refine lv_iconst (v := nI 0) hx hb dL_rename_2 (by decide) ?_
  refine lv_aload_n hx hb dL_rename_3 rfl (lv_at hl 0 rfl) ?_
  refine lv_iload_n hx hb dL_rename_4 rfl (lv_at hl 1 rfl) ?_
  refine lv_iload_n hx hb dL_rename_5 rfl (lv_at hl 2 rfl) ?_
  refine lv_iload_n hx hb dL_rename_6 rfl (lv_at hl 3 rfl) ?_
  refine k_T (vx_runV (As := [.int (nI c), .int v, .int w]) (rest := [.int (nI 0), .ref (ad 46)]) hF (c_X3_rename_Tb l D cI cA ad n x c v w hlt hc hn hbad) (cwV 3 hts gL_rename_X3_rename rfl rfl rfl (by decide +kernel) ⟨(Nat.le_of_ble_eq_true rfl), (Nat.le_of_ble_eq_true rfl)⟩) (k_preT hPc hKc hDc hT (hXF.of rfl (State.WarmedH.refl s) (fun _ _ _ => rfl) oA_c) (k := 0) (by decide) cF_0 rfl) rfl rfl hl.1 rfl (lv_room (Nat.le_of_ble_eq_true rfl)) dL_rename_7 ⟨(Nat.le_of_ble_eq_true rfl), (Nat.le_of_ble_eq_true rfl)⟩) (fun _ _ _ h => h) (fun H qx ce hz hk hce hcv hcl => ?_)
  have hP := oP_keep hP hk
  have hS : va_S (wA ad 47) s.heap H [] := ⟨hz, fun q h1 _ => hk q h1, fun _ h => by cases h⟩
  refine vx_catch (own := RL) (name := IAE) hown (tableOf [(0, 12, 15, 13)]) ⟨0, 12, 19, 15⟩ (tableOf []) (by rw [htab]; rfl) (fun z hz => ?_) rfl (by decide) (hts (.classLink RL 15 IAE) (by decide +kernel)) (castE hXF.2.2 (Or.inr (Or.inl rfl))) hce hcv hcl ?_
  · have hz : z ∈ ([⟨0, 12, 15, 13⟩] : List ExceptionTableEntry) := hz
    rcases List.mem_cons.mp hz with rfl | hz
    · exact Or.inr ⟨by decide, IOOB, hts (.classLink RL 13 IOOB) (by decide +kernel), hC.1⟩
    cases hz
  refine lv_astore (lv' := [(5, .ref qx), (0, .ref (ad 0)), (1, .int (nI c)), (2, .int v), (3, .int w), (4, .ref (ad 46))]) hx hb dL_rename_19 hl (by decide) rfl (fun ls hl => ?_)
  refine lv_iconst (v := nI 2) hx hb dL_rename_21 (by decide) ?_
  exact hret H [] _ _ 22 ls (nI 2) _ hP hS dL_rename_22 rfl rfl (Nat.le_of_ble_eq_true rfl) (Nat.le_of_ble_eq_true rfl)
set_option maxHeartbeats 4000000 in
set_option maxRecDepth 100000 in
theorem w_sync_0 (l : Launch) (D : va_G) (cI : ClassId) (cA : ClassId) (ad : Nat → Nat) (n : Nat) (x : Nat → Nat → Int32) (b : Int32) (cL : ClassId) (o : Nat → Int64) (hbk : bookB b = true) (hn : n ≤ 24) : Met l yL_sync wsL_sync ({ frames := 4, cells := 1, slots := 6, locals := 96 }) (va_Pc [.ref (ad 0), .int b, .ref (ad 46)] (wO D cI cA cL ad n x o)) (qO D ad (oF cI cA cL ad n (syS x b n) (oW o (syC x b n).toInt64)) 47 (nI 0)) 1 6 (wA ad 47) := by
  refine c_ofO (cc := cL_sync) (maxL := 4) (hh := [(0, 9, 12, 13)]) (by decide) rfl (Nat.le_of_ble_eq_true rfl) ?_
  intro p e s m av below meth cd Q hx hb hF htab hP hK hD hT hXF hC hret ls hl
  have hown : s.vm.findClass RL = some m.cls := hF.2.2.2.1
  have hF : CallFix p m cd cL_sync 4 s av wsL_sync RL := hF
  have hts := hF.2.2.2.2
  have hl : lv_has ls 4 [(0, .ref (ad 0)), (1, .int b), (2, .ref (ad 46))] := hl
  have hPc := oP_c hP
  have hKc := hK.sub (tys' := [(cI, .int), (cA, .array .int)]) [0, 1] rfl
  have hDc := oD_c hD
  refine lv_aload_n hx hb dL_sync_0 rfl (lv_at hl 2 rfl) ?_
  refine lv_iconst (v := nI 0) hx hb dL_sync_1 (by decide) ?_
  refine lv_aload_n hx hb dL_sync_2 rfl (lv_at hl 0 rfl) ?_
  refine lv_iload_n hx hb dL_sync_3 rfl (lv_at hl 1 rfl) ?_
  refine k_Wi (va_runV (As := [.int b]) (rest := [.int (nI 0), .ref (ad 46)]) hF (c_X3_sync l D cI cA ad n x b hbk hn) (cwV 1 hts gL_sync_X3_sync rfl rfl rfl (by decide +kernel) ⟨(Nat.le_of_ble_eq_true rfl), (Nat.le_of_ble_eq_true rfl)⟩) (k_pre hPc hKc hDc hT (k := 0) (by decide) cF_0 rfl) rfl rfl hl.1 rfl (lv_room (Nat.le_of_ble_eq_true rfl)) dL_sync_4 ⟨Nat.zero_le _, Nat.zero_le _⟩) hDc (sS.rf (A := wA ad 46)) (fun H locs hP1 hS1 => ?_)
  have hP := oP_call hD hP hP1 hS1.1.2.1
  have hS : va_S (wA ad 47) s.heap H locs := vS_up oA_c hS1.1
  refine lv_i2l hx hb dL_sync_7 rfl ?_
  refine r_last hx hb hK hP hD hS rfl dL_sync_8 (fun H locs hP hS => ?_)
  refine lv_goto (tgt := 15) hx hb dL_sync_9 (by decide) ?_
  refine lv_iconst (v := nI 0) hx hb dL_sync_15 (by decide) ?_
  exact hret H locs _ _ 16 ls (nI 0) _ hP hS dL_sync_16 rfl rfl (Nat.zero_le _) (Nat.zero_le _)
set_option maxHeartbeats 4000000 in
set_option maxRecDepth 100000 in
theorem w_sync_Ta (l : Launch) (D : va_G) (cI : ClassId) (cA : ClassId) (ad : Nat → Nat) (n : Nat) (x : Nat → Nat → Int32) (b : Int32) (cL : ClassId) (o : Nat → Int64) (hlt : l.stackTraces = false) (hbk : bookB b = false) : Met l yL_sync wsL_sync ({ frames := 8, cells := 1, slots := 6, locals := 126 }) (va_Pc [.ref (ad 0), .int b, .ref (ad 46)] (wO D cI cA cL ad n x o)) (qO D ad (oF cI cA cL ad n x o) 47 (nI 1)) 1 6 (wA ad 47) := by
  refine c_ofO (cc := cL_sync) (maxL := 4) (hh := [(0, 9, 12, 13)]) (by decide) rfl (Nat.le_of_ble_eq_true rfl) ?_
  intro p e s m av below meth cd Q hx hb hF htab hP hK hD hT hXF hC hret ls hl
  have hown : s.vm.findClass RL = some m.cls := hF.2.2.2.1
  have hF : CallFix p m cd cL_sync 4 s av wsL_sync RL := hF
  have hts := hF.2.2.2.2
  have hl : lv_has ls 4 [(0, .ref (ad 0)), (1, .int b), (2, .ref (ad 46))] := hl
  have hPc := oP_c hP
  have hKc := hK.sub (tys' := [(cI, .int), (cA, .array .int)]) [0, 1] rfl
  have hDc := oD_c hD
  refine lv_aload_n hx hb dL_sync_0 rfl (lv_at hl 2 rfl) ?_
  refine lv_iconst (v := nI 0) hx hb dL_sync_1 (by decide) ?_
  refine lv_aload_n hx hb dL_sync_2 rfl (lv_at hl 0 rfl) ?_
  refine lv_iload_n hx hb dL_sync_3 rfl (lv_at hl 1 rfl) ?_
  refine k_T (vx_runV (As := [.int b]) (rest := [.int (nI 0), .ref (ad 46)]) hF (c_X3_sync_Ta l D cI cA ad n x b hlt hbk) (cwV 1 hts gL_sync_X3_sync rfl rfl rfl (by decide +kernel) ⟨(Nat.le_of_ble_eq_true rfl), (Nat.le_of_ble_eq_true rfl)⟩) (k_preT hPc hKc hDc hT (hXF.of rfl (State.WarmedH.refl s) (fun _ _ _ => rfl) oA_c) (k := 0) (by decide) cF_0 rfl) rfl rfl hl.1 rfl (lv_room (Nat.le_of_ble_eq_true rfl)) dL_sync_4 ⟨(Nat.le_of_ble_eq_true rfl), (Nat.le_of_ble_eq_true rfl)⟩) (fun _ _ _ h => h) (fun H qx ce hz hk hce hcv hcl => ?_)
  have hP := oP_keep hP hk
  have hS : va_S (wA ad 47) s.heap H [] := ⟨hz, fun q h1 _ => hk q h1, fun _ h => by cases h⟩
  refine vx_catch (own := RL) (name := IOOB) hown (tableOf []) ⟨0, 9, 12, 13⟩ (tableOf []) (by rw [htab]; rfl) (fun z hz => ?_) rfl (by decide) (hts (.classLink RL 13 IOOB) (by decide +kernel)) (castE hXF.2.2 (Or.inl rfl)) hce hcv hcl ?_
  · cases hz
  refine lv_astore_n (lv' := [(3, .ref qx), (0, .ref (ad 0)), (1, .int b), (2, .ref (ad 46))]) hx hb dL_sync_12 rfl hl (by decide) rfl (fun ls hl => ?_)
  refine lv_iconst (v := nI 1) hx hb dL_sync_13 (by decide) ?_
  exact hret H [] _ _ 14 ls (nI 1) _ hP hS dL_sync_14 rfl rfl (Nat.le_of_ble_eq_true rfl) (Nat.le_of_ble_eq_true rfl)
set_option maxHeartbeats 4000000 in
set_option maxRecDepth 100000 in
theorem w_values_0 (l : Launch) (D : va_G) (cI : ClassId) (cA : ClassId) (ad : Nat → Nat) (n : Nat) (x : Nat → Nat → Int32) (c : Nat) (v : Nat) (k : Nat) (cL : ClassId) (o : Nat → Int64) (hc : c < n) (hn : n ≤ 24) (hv : v < 3) (hk : k < 2) : Met l yL_values wsL_values ({ frames := 3, cells := 1, slots := 6, locals := 63 }) (va_Pc [.ref (ad 0), .int (nI c), .int (nI v), .int (nI k), .ref (ad 46)] (wO D cI cA cL ad n x o)) (qO D ad (oF cI cA cL ad n x (oW o (x (2 * v + k + 16) c).toInt64)) 47 (nI 0)) 1 6 (wA ad 47) := by
  refine c_ofO (cc := cL_values) (maxL := 6) (hh := [(0, 12, 15, 13), (0, 12, 19, 15)]) (by decide) rfl (Nat.le_of_ble_eq_true rfl) ?_
  intro p e s m av below meth cd Q hx hb hF htab hP hK hD hT hXF hC hret ls hl
  have hown : s.vm.findClass RL = some m.cls := hF.2.2.2.1
  have hF : CallFix p m cd cL_values 6 s av wsL_values RL := hF
  have hts := hF.2.2.2.2
  have hl : lv_has ls 6 [(0, .ref (ad 0)), (1, .int (nI c)), (2, .int (nI v)), (3, .int (nI k)), (4, .ref (ad 46))] := hl
  have hPc := oP_c hP
  have hKc := hK.sub (tys' := [(cI, .int), (cA, .array .int)]) [0, 1] rfl
  have hDc := oD_c hD
  refine lv_aload hx hb dL_values_0 (lv_at hl 4 rfl) ?_
  refine lv_iconst (v := nI 0) hx hb dL_values_2 (by decide) ?_
  refine lv_aload_n hx hb dL_values_3 rfl (lv_at hl 0 rfl) ?_
  refine lv_iload_n hx hb dL_values_4 rfl (lv_at hl 1 rfl) ?_
  refine lv_iload_n hx hb dL_values_5 rfl (lv_at hl 2 rfl) ?_
  refine lv_iload_n hx hb dL_values_6 rfl (lv_at hl 3 rfl) ?_
  refine k_Ri (va_runV (As := [.int (nI c), .int (nI v), .int (nI k)]) (rest := [.int (nI 0), .ref (ad 46)]) hF (c_X3_values l D cI cA ad n x c v k hc hn hv hk) (cwV 3 hts gL_values_X3_values rfl rfl rfl (by decide +kernel) ⟨(Nat.le_of_ble_eq_true rfl), (Nat.le_of_ble_eq_true rfl)⟩) (k_pre hPc hKc hDc hT (k := 0) (by decide) cF_0 rfl) rfl rfl hl.1 rfl (lv_room (Nat.le_of_ble_eq_true rfl)) dL_values_7 ⟨Nat.zero_le _, Nat.zero_le _⟩) ?_
  have hS : va_S (wA ad 47) s.heap s.heap [] := va_S.rf
  refine lv_i2l hx hb dL_values_10 rfl ?_
  refine r_last hx hb hK hP hD hS rfl dL_values_11 (fun H locs hP hS => ?_)
  refine lv_goto (tgt := 23) hx hb dL_values_12 (by decide) ?_
  refine lv_iconst (v := nI 0) hx hb dL_values_23 (by decide) ?_
  exact hret H locs _ _ 24 ls (nI 0) _ hP hS dL_values_24 rfl rfl (Nat.zero_le _) (Nat.zero_le _)
set_option maxHeartbeats 4000000 in
set_option maxRecDepth 100000 in
theorem w_values_Ta (l : Launch) (D : va_G) (cI : ClassId) (cA : ClassId) (ad : Nat → Nat) (n : Nat) (x : Nat → Nat → Int32) (a : Int32) (v : Int32) (k : Int32) (cL : ClassId) (o : Nat → Int64) (hlt : l.stackTraces = false) (hca : cardB n a = false) : Met l yL_values wsL_values ({ frames := 8, cells := 1, slots := 6, locals := 126 }) (va_Pc [.ref (ad 0), .int a, .int v, .int k, .ref (ad 46)] (wO D cI cA cL ad n x o)) (qO D ad (oF cI cA cL ad n x o) 47 (nI 1)) 1 6 (wA ad 47) := by
  refine c_ofO (cc := cL_values) (maxL := 6) (hh := [(0, 12, 15, 13), (0, 12, 19, 15)]) (by decide) rfl (Nat.le_of_ble_eq_true rfl) ?_
  intro p e s m av below meth cd Q hx hb hF htab hP hK hD hT hXF hC hret ls hl
  have hown : s.vm.findClass RL = some m.cls := hF.2.2.2.1
  have hF : CallFix p m cd cL_values 6 s av wsL_values RL := hF
  have hts := hF.2.2.2.2
  have hl : lv_has ls 6 [(0, .ref (ad 0)), (1, .int a), (2, .int v), (3, .int k), (4, .ref (ad 46))] := hl
  have hPc := oP_c hP
  have hKc := hK.sub (tys' := [(cI, .int), (cA, .array .int)]) [0, 1] rfl
  have hDc := oD_c hD
  refine lv_aload hx hb dL_values_0 (lv_at hl 4 rfl) ?_
  refine lv_iconst (v := nI 0) hx hb dL_values_2 (by decide) ?_
  refine lv_aload_n hx hb dL_values_3 rfl (lv_at hl 0 rfl) ?_
  refine lv_iload_n hx hb dL_values_4 rfl (lv_at hl 1 rfl) ?_
  refine lv_iload_n hx hb dL_values_5 rfl (lv_at hl 2 rfl) ?_
  refine lv_iload_n hx hb dL_values_6 rfl (lv_at hl 3 rfl) ?_
  refine k_T (vx_runV (As := [.int a, .int v, .int k]) (rest := [.int (nI 0), .ref (ad 46)]) hF (c_X3_values_Ta l D cI cA ad n x a v k hlt hca) (cwV 3 hts gL_values_X3_values rfl rfl rfl (by decide +kernel) ⟨(Nat.le_of_ble_eq_true rfl), (Nat.le_of_ble_eq_true rfl)⟩) (k_preT hPc hKc hDc hT (hXF.of rfl (State.WarmedH.refl s) (fun _ _ _ => rfl) oA_c) (k := 0) (by decide) cF_0 rfl) rfl rfl hl.1 rfl (lv_room (Nat.le_of_ble_eq_true rfl)) dL_values_7 ⟨(Nat.le_of_ble_eq_true rfl), (Nat.le_of_ble_eq_true rfl)⟩) (fun _ _ _ h => h) (fun H qx ce hz hk hce hcv hcl => ?_)
  have hP := oP_keep hP hk
  have hS : va_S (wA ad 47) s.heap H [] := ⟨hz, fun q h1 _ => hk q h1, fun _ h => by cases h⟩
  refine vx_catch (own := RL) (name := IOOB) hown (tableOf []) ⟨0, 12, 15, 13⟩ (tableOf [(0, 12, 19, 15)]) (by rw [htab]; rfl) (fun z hz => ?_) rfl (by decide) (hts (.classLink RL 13 IOOB) (by decide +kernel)) (castE hXF.2.2 (Or.inl rfl)) hce hcv hcl ?_
  · cases hz
  refine lv_astore (lv' := [(5, .ref qx), (0, .ref (ad 0)), (1, .int a), (2, .int v), (3, .int k), (4, .ref (ad 46))]) hx hb dL_values_15 hl (by decide) rfl (fun ls hl => ?_)
  refine lv_iconst (v := nI 1) hx hb dL_values_17 (by decide) ?_
  exact hret H [] _ _ 18 ls (nI 1) _ hP hS dL_values_18 rfl rfl (Nat.le_of_ble_eq_true rfl) (Nat.le_of_ble_eq_true rfl)
set_option maxHeartbeats 4000000 in
set_option maxRecDepth 100000 in
theorem w_values_Tb (l : Launch) (D : va_G) (cI : ClassId) (cA : ClassId) (ad : Nat → Nat) (n : Nat) (x : Nat → Nat → Int32) (c : Nat) (v : Int32) (k : Int32) (cL : ClassId) (o : Nat → Int64) (hlt : l.stackTraces = false) (hc : c < n) (hn : n ≤ 24) (hbad : (verB v && kindB k) = false) : Met l yL_values wsL_values ({ frames := 8, cells := 1, slots := 6, locals := 125 }) (va_Pc [.ref (ad 0), .int (nI c), .int v, .int k, .ref (ad 46)] (wO D cI cA cL ad n x o)) (qO D ad (oF cI cA cL ad n x o) 47 (nI 2)) 1 6 (wA ad 47) := by
  refine c_ofO (cc := cL_values) (maxL := 6) (hh := [(0, 12, 15, 13), (0, 12, 19, 15)]) (by decide) rfl (Nat.le_of_ble_eq_true rfl) ?_
  intro p e s m av below meth cd Q hx hb hF htab hP hK hD hT hXF hC hret ls hl
  have hown : s.vm.findClass RL = some m.cls := hF.2.2.2.1
  have hF : CallFix p m cd cL_values 6 s av wsL_values RL := hF
  have hts := hF.2.2.2.2
  have hl : lv_has ls 6 [(0, .ref (ad 0)), (1, .int (nI c)), (2, .int v), (3, .int k), (4, .ref (ad 46))] := hl
  have hPc := oP_c hP
  have hKc := hK.sub (tys' := [(cI, .int), (cA, .array .int)]) [0, 1] rfl
  have hDc := oD_c hD
  refine lv_aload hx hb dL_values_0 (lv_at hl 4 rfl) ?_
  refine lv_iconst (v := nI 0) hx hb dL_values_2 (by decide) ?_
  refine lv_aload_n hx hb dL_values_3 rfl (lv_at hl 0 rfl) ?_
  refine lv_iload_n hx hb dL_values_4 rfl (lv_at hl 1 rfl) ?_
  refine lv_iload_n hx hb dL_values_5 rfl (lv_at hl 2 rfl) ?_
  refine lv_iload_n hx hb dL_values_6 rfl (lv_at hl 3 rfl) ?_
  refine k_T (vx_runV (As := [.int (nI c), .int v, .int k]) (rest := [.int (nI 0), .ref (ad 46)]) hF (c_X3_values_Tb l D cI cA ad n x c v k hlt hc hn hbad) (cwV 3 hts gL_values_X3_values rfl rfl rfl (by decide +kernel) ⟨(Nat.le_of_ble_eq_true rfl), (Nat.le_of_ble_eq_true rfl)⟩) (k_preT hPc hKc hDc hT (hXF.of rfl (State.WarmedH.refl s) (fun _ _ _ => rfl) oA_c) (k := 0) (by decide) cF_0 rfl) rfl rfl hl.1 rfl (lv_room (Nat.le_of_ble_eq_true rfl)) dL_values_7 ⟨(Nat.le_of_ble_eq_true rfl), (Nat.le_of_ble_eq_true rfl)⟩) (fun _ _ _ h => h) (fun H qx ce hz hk hce hcv hcl => ?_)
  have hP := oP_keep hP hk
  have hS : va_S (wA ad 47) s.heap H [] := ⟨hz, fun q h1 _ => hk q h1, fun _ h => by cases h⟩
  refine vx_catch (own := RL) (name := IAE) hown (tableOf [(0, 12, 15, 13)]) ⟨0, 12, 19, 15⟩ (tableOf []) (by rw [htab]; rfl) (fun z hz => ?_) rfl (by decide) (hts (.classLink RL 15 IAE) (by decide +kernel)) (castE hXF.2.2 (Or.inr (Or.inl rfl))) hce hcv hcl ?_
  · have hz : z ∈ ([⟨0, 12, 15, 13⟩] : List ExceptionTableEntry) := hz
    rcases List.mem_cons.mp hz with rfl | hz
    · exact Or.inr ⟨by decide, IOOB, hts (.classLink RL 13 IOOB) (by decide +kernel), hC.1⟩
    cases hz
  refine lv_astore (lv' := [(5, .ref qx), (0, .ref (ad 0)), (1, .int (nI c)), (2, .int v), (3, .int k), (4, .ref (ad 46))]) hx hb dL_values_19 hl (by decide) rfl (fun ls hl => ?_)
  refine lv_iconst (v := nI 2) hx hb dL_values_21 (by decide) ?_
  exact hret H [] _ _ 22 ls (nI 2) _ hP hS dL_values_22 rfl rfl (Nat.le_of_ble_eq_true rfl) (Nat.le_of_ble_eq_true rfl)
set_option maxHeartbeats 4000000 in
set_option maxRecDepth 100000 in
theorem w_nameOf_0 (l : Launch) (D : va_G) (cI : ClassId) (cA : ClassId) (ad : Nat → Nat) (n : Nat) (x : Nat → Nat → Int32) (c : Nat) (v : Nat) (cL : ClassId) (o : Nat → Int64) (hc : c < n) (hn : n ≤ 24) (hv : v < 3) : Met l yL_nameOf wsL_nameOf ({ frames := 3, cells := 1, slots := 6, locals := 62 }) (va_Pc [.ref (ad 0), .int (nI c), .int (nI v), .ref (ad 46)] (wO D cI cA cL ad n x o)) (qO D ad (oF cI cA cL ad n x (oW o (x (v + 13) c).toInt64)) 47 (nI 0)) 1 6 (wA ad 47) := by
  refine c_ofO (cc := cL_nameOf) (maxL := 5) (hh := [(0, 10, 13, 13), (0, 10, 17, 15)]) (by decide) rfl (Nat.le_of_ble_eq_true rfl) ?_
  intro p e s m av below meth cd Q hx hb hF htab hP hK hD hT hXF hC hret ls hl
  have hown : s.vm.findClass RL = some m.cls := hF.2.2.2.1
  have hF : CallFix p m cd cL_nameOf 5 s av wsL_nameOf RL := hF
  have hts := hF.2.2.2.2
  have hl : lv_has ls 5 [(0, .ref (ad 0)), (1, .int (nI c)), (2, .int (nI v)), (3, .ref (ad 46))] := hl
  have hPc := oP_c hP
  have hKc := hK.sub (tys' := [(cI, .int), (cA, .array .int)]) [0, 1] rfl
  have hDc := oD_c hD
  refine lv_aload_n hx hb dL_nameOf_0 rfl (lv_at hl 3 rfl) ?_
  refine lv_iconst (v := nI 0) hx hb dL_nameOf_1 (by decide) ?_
  refine lv_aload_n hx hb dL_nameOf_2 rfl (lv_at hl 0 rfl) ?_
  refine lv_iload_n hx hb dL_nameOf_3 rfl (lv_at hl 1 rfl) ?_
  refine lv_iload_n hx hb dL_nameOf_4 rfl (lv_at hl 2 rfl) ?_
  refine k_Ri (va_runV (As := [.int (nI c), .int (nI v)]) (rest := [.int (nI 0), .ref (ad 46)]) hF (c_X3_nameOf l D cI cA ad n x c v hc hn hv) (cwV 2 hts gL_nameOf_X3_nameOf rfl rfl rfl (by decide +kernel) ⟨(Nat.le_of_ble_eq_true rfl), (Nat.le_of_ble_eq_true rfl)⟩) (k_pre hPc hKc hDc hT (k := 0) (by decide) cF_0 rfl) rfl rfl hl.1 rfl (lv_room (Nat.le_of_ble_eq_true rfl)) dL_nameOf_5 ⟨Nat.zero_le _, Nat.zero_le _⟩) ?_
  have hS : va_S (wA ad 47) s.heap s.heap [] := va_S.rf
  refine lv_i2l hx hb dL_nameOf_8 rfl ?_
  refine r_last hx hb hK hP hD hS rfl dL_nameOf_9 (fun H locs hP hS => ?_)
  refine lv_goto (tgt := 21) hx hb dL_nameOf_10 (by decide) ?_
  refine lv_iconst (v := nI 0) hx hb dL_nameOf_21 (by decide) ?_
  exact hret H locs _ _ 22 ls (nI 0) _ hP hS dL_nameOf_22 rfl rfl (Nat.zero_le _) (Nat.zero_le _)
set_option maxHeartbeats 4000000 in
set_option maxRecDepth 100000 in
theorem w_nameOf_Ta (l : Launch) (D : va_G) (cI : ClassId) (cA : ClassId) (ad : Nat → Nat) (n : Nat) (x : Nat → Nat → Int32) (a : Int32) (v : Int32) (cL : ClassId) (o : Nat → Int64) (hlt : l.stackTraces = false) (hca : cardB n a = false) : Met l yL_nameOf wsL_nameOf ({ frames := 8, cells := 1, slots := 6, locals := 125 }) (va_Pc [.ref (ad 0), .int a, .int v, .ref (ad 46)] (wO D cI cA cL ad n x o)) (qO D ad (oF cI cA cL ad n x o) 47 (nI 1)) 1 6 (wA ad 47) := by
  refine c_ofO (cc := cL_nameOf) (maxL := 5) (hh := [(0, 10, 13, 13), (0, 10, 17, 15)]) (by decide) rfl (Nat.le_of_ble_eq_true rfl) ?_
  intro p e s m av below meth cd Q hx hb hF htab hP hK hD hT hXF hC hret ls hl
  have hown : s.vm.findClass RL = some m.cls := hF.2.2.2.1
  have hF : CallFix p m cd cL_nameOf 5 s av wsL_nameOf RL := hF
  have hts := hF.2.2.2.2
  have hl : lv_has ls 5 [(0, .ref (ad 0)), (1, .int a), (2, .int v), (3, .ref (ad 46))] := hl
  have hPc := oP_c hP
  have hKc := hK.sub (tys' := [(cI, .int), (cA, .array .int)]) [0, 1] rfl
  have hDc := oD_c hD
  refine lv_aload_n hx hb dL_nameOf_0 rfl (lv_at hl 3 rfl) ?_
  refine lv_iconst (v := nI 0) hx hb dL_nameOf_1 (by decide) ?_
  refine lv_aload_n hx hb dL_nameOf_2 rfl (lv_at hl 0 rfl) ?_
  refine lv_iload_n hx hb dL_nameOf_3 rfl (lv_at hl 1 rfl) ?_
  refine lv_iload_n hx hb dL_nameOf_4 rfl (lv_at hl 2 rfl) ?_
  refine k_T (vx_runV (As := [.int a, .int v]) (rest := [.int (nI 0), .ref (ad 46)]) hF (c_X3_nameOf_Ta l D cI cA ad n x a v hlt hca) (cwV 2 hts gL_nameOf_X3_nameOf rfl rfl rfl (by decide +kernel) ⟨(Nat.le_of_ble_eq_true rfl), (Nat.le_of_ble_eq_true rfl)⟩) (k_preT hPc hKc hDc hT (hXF.of rfl (State.WarmedH.refl s) (fun _ _ _ => rfl) oA_c) (k := 0) (by decide) cF_0 rfl) rfl rfl hl.1 rfl (lv_room (Nat.le_of_ble_eq_true rfl)) dL_nameOf_5 ⟨(Nat.le_of_ble_eq_true rfl), (Nat.le_of_ble_eq_true rfl)⟩) (fun _ _ _ h => h) (fun H qx ce hz hk hce hcv hcl => ?_)
  have hP := oP_keep hP hk
  have hS : va_S (wA ad 47) s.heap H [] := ⟨hz, fun q h1 _ => hk q h1, fun _ h => by cases h⟩
  refine vx_catch (own := RL) (name := IOOB) hown (tableOf []) ⟨0, 10, 13, 13⟩ (tableOf [(0, 10, 17, 15)]) (by rw [htab]; rfl) (fun z hz => ?_) rfl (by decide) (hts (.classLink RL 13 IOOB) (by decide +kernel)) (castE hXF.2.2 (Or.inl rfl)) hce hcv hcl ?_
  · cases hz
  refine lv_astore (lv' := [(4, .ref qx), (0, .ref (ad 0)), (1, .int a), (2, .int v), (3, .ref (ad 46))]) hx hb dL_nameOf_13 hl (by decide) rfl (fun ls hl => ?_)
  refine lv_iconst (v := nI 1) hx hb dL_nameOf_15 (by decide) ?_
  exact hret H [] _ _ 16 ls (nI 1) _ hP hS dL_nameOf_16 rfl rfl (Nat.le_of_ble_eq_true rfl) (Nat.le_of_ble_eq_true rfl)
set_option maxHeartbeats 4000000 in
set_option maxRecDepth 100000 in
theorem w_nameOf_Tb (l : Launch) (D : va_G) (cI : ClassId) (cA : ClassId) (ad : Nat → Nat) (n : Nat) (x : Nat → Nat → Int32) (c : Nat) (v : Int32) (cL : ClassId) (o : Nat → Int64) (hlt : l.stackTraces = false) (hc : c < n) (hn : n ≤ 24) (hbad : (verB v) = false) : Met l yL_nameOf wsL_nameOf ({ frames := 8, cells := 1, slots := 6, locals := 124 }) (va_Pc [.ref (ad 0), .int (nI c), .int v, .ref (ad 46)] (wO D cI cA cL ad n x o)) (qO D ad (oF cI cA cL ad n x o) 47 (nI 2)) 1 6 (wA ad 47) := by
  refine c_ofO (cc := cL_nameOf) (maxL := 5) (hh := [(0, 10, 13, 13), (0, 10, 17, 15)]) (by decide) rfl (Nat.le_of_ble_eq_true rfl) ?_
  intro p e s m av below meth cd Q hx hb hF htab hP hK hD hT hXF hC hret ls hl
  have hown : s.vm.findClass RL = some m.cls := hF.2.2.2.1
  have hF : CallFix p m cd cL_nameOf 5 s av wsL_nameOf RL := hF
  have hts := hF.2.2.2.2
  have hl : lv_has ls 5 [(0, .ref (ad 0)), (1, .int (nI c)), (2, .int v), (3, .ref (ad 46))] := hl
  have hPc := oP_c hP
  have hKc := hK.sub (tys' := [(cI, .int), (cA, .array .int)]) [0, 1] rfl
  have hDc := oD_c hD
  refine lv_aload_n hx hb dL_nameOf_0 rfl (lv_at hl 3 rfl) ?_
  refine lv_iconst (v := nI 0) hx hb dL_nameOf_1 (by decide) ?_
  refine lv_aload_n hx hb dL_nameOf_2 rfl (lv_at hl 0 rfl) ?_
  refine lv_iload_n hx hb dL_nameOf_3 rfl (lv_at hl 1 rfl) ?_
  refine lv_iload_n hx hb dL_nameOf_4 rfl (lv_at hl 2 rfl) ?_
  refine k_T (vx_runV (As := [.int (nI c), .int v]) (rest := [.int (nI 0), .ref (ad 46)]) hF (c_X3_nameOf_Tb l D cI cA ad n x c v hlt hc hn hbad) (cwV 2 hts gL_nameOf_X3_nameOf rfl rfl rfl (by decide +kernel) ⟨(Nat.le_of_ble_eq_true rfl), (Nat.le_of_ble_eq_true rfl)⟩) (k_preT hPc hKc hDc hT (hXF.of rfl (State.WarmedH.refl s) (fun _ _ _ => rfl) oA_c) (k := 0) (by decide) cF_0 rfl) rfl rfl hl.1 rfl (lv_room (Nat.le_of_ble_eq_true rfl)) dL_nameOf_5 ⟨(Nat.le_of_ble_eq_true rfl), (Nat.le_of_ble_eq_true rfl)⟩) (fun _ _ _ h => h) (fun H qx ce hz hk hce hcv hcl => ?_)
  have hP := oP_keep hP hk
  have hS : va_S (wA ad 47) s.heap H [] := ⟨hz, fun q h1 _ => hk q h1, fun _ h => by cases h⟩
  refine vx_catch (own := RL) (name := IAE) hown (tableOf [(0, 10, 13, 13)]) ⟨0, 10, 17, 15⟩ (tableOf []) (by rw [htab]; rfl) (fun z hz => ?_) rfl (by decide) (hts (.classLink RL 15 IAE) (by decide +kernel)) (castE hXF.2.2 (Or.inr (Or.inl rfl))) hce hcv hcl ?_
  · have hz : z ∈ ([⟨0, 10, 13, 13⟩] : List ExceptionTableEntry) := hz
    rcases List.mem_cons.mp hz with rfl | hz
    · exact Or.inr ⟨by decide, IOOB, hts (.classLink RL 13 IOOB) (by decide +kernel), hC.1⟩
    cases hz
  refine lv_astore (lv' := [(4, .ref qx), (0, .ref (ad 0)), (1, .int (nI c)), (2, .int v), (3, .ref (ad 46))]) hx hb dL_nameOf_17 hl (by decide) rfl (fun ls hl => ?_)
  refine lv_iconst (v := nI 2) hx hb dL_nameOf_19 (by decide) ?_
  exact hret H [] _ _ 20 ls (nI 2) _ hP hS dL_nameOf_20 rfl rfl (Nat.le_of_ble_eq_true rfl) (Nat.le_of_ble_eq_true rfl)
set_option maxHeartbeats 4000000 in
set_option maxRecDepth 100000 in
theorem w_merged_0 (l : Launch) (D : va_G) (cI : ClassId) (cA : ClassId) (ad : Nat → Nat) (n : Nat) (x : Nat → Nat → Int32) (c : Nat) (k : Nat) (cL : ClassId) (o : Nat → Int64) (hc : c < n) (hn : n ≤ 24) (hk : k < 2) : Met l yL_merged wsL_merged ({ frames := 3, cells := 1, slots := 6, locals := 70 }) (va_Pc [.ref (ad 0), .int (nI c), .int (nI k), .ref (ad 46)] (wO D cI cA cL ad n x o)) (qO D ad (oF cI cA cL ad n x (oW o (cSt x c k).toInt64)) 47 (nI 0)) 1 6 (wA ad 47) := by
  refine c_ofO (cc := cL_merged) (maxL := 5) (hh := [(0, 10, 13, 13), (0, 10, 17, 15)]) (by decide) rfl (Nat.le_of_ble_eq_true rfl) ?_
  intro p e s m av below meth cd Q hx hb hF htab hP hK hD hT hXF hC hret ls hl
  have hown : s.vm.findClass RL = some m.cls := hF.2.2.2.1
  have hF : CallFix p m cd cL_merged 5 s av wsL_merged RL := hF
  have hts := hF.2.2.2.2
  have hl : lv_has ls 5 [(0, .ref (ad 0)), (1, .int (nI c)), (2, .int (nI k)), (3, .ref (ad 46))] := hl
  have hPc := oP_c hP
  have hKc := hK.sub (tys' := [(cI, .int), (cA, .array .int)]) [0, 1] rfl
  have hDc := oD_c hD
  refine lv_aload_n hx hb dL_merged_0 rfl (lv_at hl 3 rfl) ?_
  refine lv_iconst (v := nI 0) hx hb dL_merged_1 (by decide) ?_
  refine lv_aload_n hx hb dL_merged_2 rfl (lv_at hl 0 rfl) ?_
  refine lv_iload_n hx hb dL_merged_3 rfl (lv_at hl 1 rfl) ?_
  refine lv_iload_n hx hb dL_merged_4 rfl (lv_at hl 2 rfl) ?_
  refine k_Ri (va_runV (As := [.int (nI c), .int (nI k)]) (rest := [.int (nI 0), .ref (ad 46)]) hF (c_X3_merged l D cI cA ad n x c k hc hn hk) (cwV 2 hts gL_merged_X3_merged rfl rfl rfl (by decide +kernel) ⟨(Nat.le_of_ble_eq_true rfl), (Nat.le_of_ble_eq_true rfl)⟩) (k_pre hPc hKc hDc hT (k := 0) (by decide) cF_0 rfl) rfl rfl hl.1 rfl (lv_room (Nat.le_of_ble_eq_true rfl)) dL_merged_5 ⟨Nat.zero_le _, Nat.zero_le _⟩) ?_
  have hS : va_S (wA ad 47) s.heap s.heap [] := va_S.rf
  refine lv_i2l hx hb dL_merged_8 rfl ?_
  refine r_last hx hb hK hP hD hS rfl dL_merged_9 (fun H locs hP hS => ?_)
  refine lv_goto (tgt := 21) hx hb dL_merged_10 (by decide) ?_
  refine lv_iconst (v := nI 0) hx hb dL_merged_21 (by decide) ?_
  exact hret H locs _ _ 22 ls (nI 0) _ hP hS dL_merged_22 rfl rfl (Nat.zero_le _) (Nat.zero_le _)
set_option maxHeartbeats 4000000 in
set_option maxRecDepth 100000 in
theorem w_merged_Ta (l : Launch) (D : va_G) (cI : ClassId) (cA : ClassId) (ad : Nat → Nat) (n : Nat) (x : Nat → Nat → Int32) (a : Int32) (k : Int32) (cL : ClassId) (o : Nat → Int64) (hlt : l.stackTraces = false) (hca : cardB n a = false) : Met l yL_merged wsL_merged ({ frames := 8, cells := 1, slots := 6, locals := 125 }) (va_Pc [.ref (ad 0), .int a, .int k, .ref (ad 46)] (wO D cI cA cL ad n x o)) (qO D ad (oF cI cA cL ad n x o) 47 (nI 1)) 1 6 (wA ad 47) := by
  refine c_ofO (cc := cL_merged) (maxL := 5) (hh := [(0, 10, 13, 13), (0, 10, 17, 15)]) (by decide) rfl (Nat.le_of_ble_eq_true rfl) ?_
  intro p e s m av below meth cd Q hx hb hF htab hP hK hD hT hXF hC hret ls hl
  have hown : s.vm.findClass RL = some m.cls := hF.2.2.2.1
  have hF : CallFix p m cd cL_merged 5 s av wsL_merged RL := hF
  have hts := hF.2.2.2.2
  have hl : lv_has ls 5 [(0, .ref (ad 0)), (1, .int a), (2, .int k), (3, .ref (ad 46))] := hl
  have hPc := oP_c hP
  have hKc := hK.sub (tys' := [(cI, .int), (cA, .array .int)]) [0, 1] rfl
  have hDc := oD_c hD
  refine lv_aload_n hx hb dL_merged_0 rfl (lv_at hl 3 rfl) ?_
  refine lv_iconst (v := nI 0) hx hb dL_merged_1 (by decide) ?_
  refine lv_aload_n hx hb dL_merged_2 rfl (lv_at hl 0 rfl) ?_
  refine lv_iload_n hx hb dL_merged_3 rfl (lv_at hl 1 rfl) ?_
  refine lv_iload_n hx hb dL_merged_4 rfl (lv_at hl 2 rfl) ?_
  refine k_T (vx_runV (As := [.int a, .int k]) (rest := [.int (nI 0), .ref (ad 46)]) hF (c_X3_merged_Ta l D cI cA ad n x a k hlt hca) (cwV 2 hts gL_merged_X3_merged rfl rfl rfl (by decide +kernel) ⟨(Nat.le_of_ble_eq_true rfl), (Nat.le_of_ble_eq_true rfl)⟩) (k_preT hPc hKc hDc hT (hXF.of rfl (State.WarmedH.refl s) (fun _ _ _ => rfl) oA_c) (k := 0) (by decide) cF_0 rfl) rfl rfl hl.1 rfl (lv_room (Nat.le_of_ble_eq_true rfl)) dL_merged_5 ⟨(Nat.le_of_ble_eq_true rfl), (Nat.le_of_ble_eq_true rfl)⟩) (fun _ _ _ h => h) (fun H qx ce hz hk hce hcv hcl => ?_)
  have hP := oP_keep hP hk
  have hS : va_S (wA ad 47) s.heap H [] := ⟨hz, fun q h1 _ => hk q h1, fun _ h => by cases h⟩
  refine vx_catch (own := RL) (name := IOOB) hown (tableOf []) ⟨0, 10, 13, 13⟩ (tableOf [(0, 10, 17, 15)]) (by rw [htab]; rfl) (fun z hz => ?_) rfl (by decide) (hts (.classLink RL 13 IOOB) (by decide +kernel)) (castE hXF.2.2 (Or.inl rfl)) hce hcv hcl ?_
  · cases hz
  refine lv_astore (lv' := [(4, .ref qx), (0, .ref (ad 0)), (1, .int a), (2, .int k), (3, .ref (ad 46))]) hx hb dL_merged_13 hl (by decide) rfl (fun ls hl => ?_)
  refine lv_iconst (v := nI 1) hx hb dL_merged_15 (by decide) ?_
  exact hret H [] _ _ 16 ls (nI 1) _ hP hS dL_merged_16 rfl rfl (Nat.le_of_ble_eq_true rfl) (Nat.le_of_ble_eq_true rfl)
set_option maxHeartbeats 4000000 in
set_option maxRecDepth 100000 in
theorem w_merged_Tb (l : Launch) (D : va_G) (cI : ClassId) (cA : ClassId) (ad : Nat → Nat) (n : Nat) (x : Nat → Nat → Int32) (c : Nat) (k : Int32) (cL : ClassId) (o : Nat → Int64) (hlt : l.stackTraces = false) (hc : c < n) (hn : n ≤ 24) (hbad : (kindB k) = false) : Met l yL_merged wsL_merged ({ frames := 8, cells := 1, slots := 6, locals := 124 }) (va_Pc [.ref (ad 0), .int (nI c), .int k, .ref (ad 46)] (wO D cI cA cL ad n x o)) (qO D ad (oF cI cA cL ad n x o) 47 (nI 2)) 1 6 (wA ad 47) := by
  refine c_ofO (cc := cL_merged) (maxL := 5) (hh := [(0, 10, 13, 13), (0, 10, 17, 15)]) (by decide) rfl (Nat.le_of_ble_eq_true rfl) ?_
  intro p e s m av below meth cd Q hx hb hF htab hP hK hD hT hXF hC hret ls hl
  have hown : s.vm.findClass RL = some m.cls := hF.2.2.2.1
  have hF : CallFix p m cd cL_merged 5 s av wsL_merged RL := hF
  have hts := hF.2.2.2.2
  have hl : lv_has ls 5 [(0, .ref (ad 0)), (1, .int (nI c)), (2, .int k), (3, .ref (ad 46))] := hl
  have hPc := oP_c hP
  have hKc := hK.sub (tys' := [(cI, .int), (cA, .array .int)]) [0, 1] rfl
  have hDc := oD_c hD
  refine lv_aload_n hx hb dL_merged_0 rfl (lv_at hl 3 rfl) ?_
  refine lv_iconst (v := nI 0) hx hb dL_merged_1 (by decide) ?_
  refine lv_aload_n hx hb dL_merged_2 rfl (lv_at hl 0 rfl) ?_
  refine lv_iload_n hx hb dL_merged_3 rfl (lv_at hl 1 rfl) ?_
  refine lv_iload_n hx hb dL_merged_4 rfl (lv_at hl 2 rfl) ?_
  refine k_T (vx_runV (As := [.int (nI c), .int k]) (rest := [.int (nI 0), .ref (ad 46)]) hF (c_X3_merged_Tb l D cI cA ad n x c k hlt hc hn hbad) (cwV 2 hts gL_merged_X3_merged rfl rfl rfl (by decide +kernel) ⟨(Nat.le_of_ble_eq_true rfl), (Nat.le_of_ble_eq_true rfl)⟩) (k_preT hPc hKc hDc hT (hXF.of rfl (State.WarmedH.refl s) (fun _ _ _ => rfl) oA_c) (k := 0) (by decide) cF_0 rfl) rfl rfl hl.1 rfl (lv_room (Nat.le_of_ble_eq_true rfl)) dL_merged_5 ⟨(Nat.le_of_ble_eq_true rfl), (Nat.le_of_ble_eq_true rfl)⟩) (fun _ _ _ h => h) (fun H qx ce hz hk hce hcv hcl => ?_)
  have hP := oP_keep hP hk
  have hS : va_S (wA ad 47) s.heap H [] := ⟨hz, fun q h1 _ => hk q h1, fun _ h => by cases h⟩
  refine vx_catch (own := RL) (name := IAE) hown (tableOf [(0, 10, 13, 13)]) ⟨0, 10, 17, 15⟩ (tableOf []) (by rw [htab]; rfl) (fun z hz => ?_) rfl (by decide) (hts (.classLink RL 15 IAE) (by decide +kernel)) (castE hXF.2.2 (Or.inr (Or.inl rfl))) hce hcv hcl ?_
  · have hz : z ∈ ([⟨0, 10, 13, 13⟩] : List ExceptionTableEntry) := hz
    rcases List.mem_cons.mp hz with rfl | hz
    · exact Or.inr ⟨by decide, IOOB, hts (.classLink RL 13 IOOB) (by decide +kernel), hC.1⟩
    cases hz
  refine lv_astore (lv' := [(4, .ref qx), (0, .ref (ad 0)), (1, .int (nI c)), (2, .int k), (3, .ref (ad 46))]) hx hb dL_merged_17 hl (by decide) rfl (fun ls hl => ?_)
  refine lv_iconst (v := nI 2) hx hb dL_merged_19 (by decide) ?_
  exact hret H [] _ _ 20 ls (nI 2) _ hP hS dL_merged_20 rfl rfl (Nat.le_of_ble_eq_true rfl) (Nat.le_of_ble_eq_true rfl)
