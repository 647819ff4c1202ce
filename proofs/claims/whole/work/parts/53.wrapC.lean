set_option maxHeartbeats 4000000 in
set_option maxRecDepth 100000 in
theorem w_shown_0 (l : Launch) (D : va_G) (cI : ClassId) (cA : ClassId) (ad : Nat → Nat) (n : Nat) (x : Nat → Nat → Int32) (c : Nat) (k : Nat) (cL : ClassId) (o : Nat → Int64) (hc : c < n) (hn : n ≤ 24) (hk : k < 2) : Met l yL_shown wsL_shown ({ frames := 3, cells := 1, slots := 6, locals := 69 }) (va_Pc [.ref (ad 0), .int (nI c), .int (nI k), .ref (ad 46)] (wO D cI cA cL ad n x o)) (qO D ad (oF cI cA cL ad n x (oW o (orF (x 9 c) (x (k + 16)) n).toInt64)) 47 (nI 0)) 1 6 (wA ad 47) := by
  refine c_ofO (cc := cL_shown) (maxL := 5) (hh := [(0, 10, 13, 13), (0, 10, 17, 15)]) (by decide) rfl (Nat.le_of_ble_eq_true rfl) ?_
  intro p e s m av below meth cd Q hx hb hF htab hP hK hD hT hXF hC hret ls hl
  have hown : s.vm.findClass RL = some m.cls := hF.2.2.2.1
  have hF : CallFix p m cd cL_shown 5 s av wsL_shown RL := hF
  have hts := hF.2.2.2.2
  have hl : lv_has ls 5 [(0, .ref (ad 0)), (1, .int (nI c)), (2, .int (nI k)), (3, .ref (ad 46))] := hl
  have hPc := oP_c hP
  have hKc := hK.sub (tys' := [(cI, .int), (cA, .array .int)]) [0, 1] rfl
  have hDc := oD_c hD
  refine lv_aload_n hx hb dL_shown_0 rfl (lv_at hl 3 rfl) ?_
  refine lv_iconst (v := nI 0) hx hb dL_shown_1 (by decide) ?_
  refine lv_aload_n hx hb dL_shown_2 rfl (lv_at hl 0 rfl) ?_
  refine lv_iload_n hx hb dL_shown_3 rfl (lv_at hl 1 rfl) ?_
  refine lv_iload_n hx hb dL_shown_4 rfl (lv_at hl 2 rfl) ?_
  refine k_Ri (va_runV (As := [.int (nI c), .int (nI k)]) (rest := [.int (nI 0), .ref (ad 46)]) hF (c_X3_shown l D cI cA ad n x c k hc hn hk) (cwV 2 hts gL_shown_X3_shown rfl rfl rfl (by decide +kernel) ⟨(Nat.le_of_ble_eq_true rfl), (Nat.le_of_ble_eq_true rfl)⟩) (k_pre hPc hKc hDc hT (k := 0) (by decide) cF_0 rfl) rfl rfl hl.1 rfl (lv_room (Nat.le_of_ble_eq_true rfl)) dL_shown_5 ⟨Nat.zero_le _, Nat.zero_le _⟩) ?_
  have hS : va_S (wA ad 47) s.heap s.heap [] := va_S.rf
  refine lv_i2l hx hb dL_shown_8 rfl ?_
  refine r_last hx hb hK hP hD hS rfl dL_shown_9 (fun H locs hP hS => ?_)
  refine lv_goto (tgt := 21) hx hb dL_shown_10 (by decide) ?_
  refine lv_iconst (v := nI 0) hx hb dL_shown_21 (by decide) ?_
  exact hret H locs _ _ 22 ls (nI 0) _ hP hS dL_shown_22 rfl rfl (Nat.zero_le _) (Nat.zero_le _)
set_option maxHeartbeats 4000000 in
set_option maxRecDepth 100000 in
theorem w_shown_Ta (l : Launch) (D : va_G) (cI : ClassId) (cA : ClassId) (ad : Nat → Nat) (n : Nat) (x : Nat → Nat → Int32) (a : Int32) (k : Int32) (cL : ClassId) (o : Nat → Int64) (hlt : l.stackTraces = false) (hca : cardB n a = false) : Met l yL_shown wsL_shown ({ frames := 8, cells := 1, slots := 6, locals := 125 }) (va_Pc [.ref (ad 0), .int a, .int k, .ref (ad 46)] (wO D cI cA cL ad n x o)) (qO D ad (oF cI cA cL ad n x o) 47 (nI 1)) 1 6 (wA ad 47) := by
  refine c_ofO (cc := cL_shown) (maxL := 5) (hh := [(0, 10, 13, 13), (0, 10, 17, 15)]) (by decide) rfl (Nat.le_of_ble_eq_true rfl) ?_
  intro p e s m av below meth cd Q hx hb hF htab hP hK hD hT hXF hC hret ls hl
  have hown : s.vm.findClass RL = some m.cls := hF.2.2.2.1
  have hF : CallFix p m cd cL_shown 5 s av wsL_shown RL := hF
  have hts := hF.2.2.2.2
  have hl : lv_has ls 5 [(0, .ref (ad 0)), (1, .int a), (2, .int k), (3, .ref (ad 46))] := hl
  have hPc := oP_c hP
  have hKc := hK.sub (tys' := [(cI, .int), (cA, .array .int)]) [0, 1] rfl
  have hDc := oD_c hD
  refine lv_aload_n hx hb dL_shown_0 rfl (lv_at hl 3 rfl) ?_
  refine lv_iconst (v := nI 0) hx hb dL_shown_1 (by decide) ?_
  refine lv_aload_n hx hb dL_shown_2 rfl (lv_at hl 0 rfl) ?_
  refine lv_iload_n hx hb dL_shown_3 rfl (lv_at hl 1 rfl) ?_
  refine lv_iload_n hx hb dL_shown_4 rfl (lv_at hl 2 rfl) ?_
  refine k_T (vx_runV (As := [.int a, .int k]) (rest := [.int (nI 0), .ref (ad 46)]) hF (c_X3_shown_Ta l D cI cA ad n x a k hlt hca) (cwV 2 hts gL_shown_X3_shown rfl rfl rfl (by decide +kernel) ⟨(Nat.le_of_ble_eq_true rfl), (Nat.le_of_ble_eq_true rfl)⟩) (k_preT hPc hKc hDc hT (hXF.of rfl (State.WarmedH.refl s) (fun _ _ _ => rfl) oA_c) (k := 0) (by decide) cF_0 rfl) rfl rfl hl.1 rfl (lv_room (Nat.le_of_ble_eq_true rfl)) dL_shown_5 ⟨(Nat.le_of_ble_eq_true rfl), (Nat.le_of_ble_eq_true rfl)⟩) (fun _ _ _ h => h) (fun H qx ce hz hk hce hcv hcl => ?_)
  have hP := oP_keep hP hk
  have hS : va_S (wA ad 47) s.heap H [] := ⟨hz, fun q h1 _ => hk q h1, fun _ h => by cases h⟩
  refine vx_catch (own := RL) (name := IOOB) hown (tableOf []) ⟨0, 10, 13, 13⟩ (tableOf [(0, 10, 17, 15)]) (by rw [htab]; rfl) (fun z hz => ?_) rfl (by decide) (hts (.classLink RL 13 IOOB) (by decide +kernel)) (castE hXF.2.2 (Or.inl rfl)) hce hcv hcl ?_
  · cases hz
  refine lv_astore (lv' := [(4, .ref qx), (0, .ref (ad 0)), (1, .int a), (2, .int k), (3, .ref (ad 46))]) hx hb dL_shown_13 hl (by decide) rfl (fun ls hl => ?_)
  refine lv_iconst (v := nI 1) hx hb dL_shown_15 (by decide) ?_
  exact hret H [] _ _ 16 ls (nI 1) _ hP hS dL_shown_16 rfl rfl (Nat.le_of_ble_eq_true rfl) (Nat.le_of_ble_eq_true rfl)
set_option maxHeartbeats 4000000 in
set_option maxRecDepth 100000 in
theorem w_shown_Tb (l : Launch) (D : va_G) (cI : ClassId) (cA : ClassId) (ad : Nat → Nat) (n : Nat) (x : Nat → Nat → Int32) (c : Nat) (k : Int32) (cL : ClassId) (o : Nat → Int64) (hlt : l.stackTraces = false) (hc : c < n) (hn : n ≤ 24) (hbad : (kindB k) = false) : Met l yL_shown wsL_shown ({ frames := 8, cells := 1, slots := 6, locals := 124 }) (va_Pc [.ref (ad 0), .int (nI c), .int k, .ref (ad 46)] (wO D cI cA cL ad n x o)) (qO D ad (oF cI cA cL ad n x o) 47 (nI 2)) 1 6 (wA ad 47) := by
  refine c_ofO (cc := cL_shown) (maxL := 5) (hh := [(0, 10, 13, 13), (0, 10, 17, 15)]) (by decide) rfl (Nat.le_of_ble_eq_true rfl) ?_
  intro p e s m av below meth cd Q hx hb hF htab hP hK hD hT hXF hC hret ls hl
  have hown : s.vm.findClass RL = some m.cls := hF.2.2.2.1
  have hF : CallFix p m cd cL_shown 5 s av wsL_shown RL := hF
  have hts := hF.2.2.2.2
  have hl : lv_has ls 5 [(0, .ref (ad 0)), (1, .int (nI c)), (2, .int k), (3, .ref (ad 46))] := hl
  have hPc := oP_c hP
  have hKc := hK.sub (tys' := [(cI, .int), (cA, .array .int)]) [0, 1] rfl
  have hDc := oD_c hD
  refine lv_aload_n hx hb dL_shown_0 rfl (lv_at hl 3 rfl) ?_
  refine lv_iconst (v := nI 0) hx hb dL_shown_1 (by decide) ?_
  refine lv_aload_n hx hb dL_shown_2 rfl (lv_at hl 0 rfl) ?_
  refine lv_iload_n hx hb dL_shown_3 rfl (lv_at hl 1 rfl) ?_
  refine lv_iload_n hx hb dL_shown_4 rfl (lv_at hl 2 rfl) ?_
  refine k_T (vx_runV (As := [.int (nI c), .int k]) (rest := [.int (nI 0), .ref (ad 46)]) hF (c_X3_shown_Tb l D cI cA ad n x c k hlt hc hn hbad) (cwV 2 hts gL_shown_X3_shown rfl rfl rfl (by decide +kernel) ⟨(Nat.le_of_ble_eq_true rfl), (Nat.le_of_ble_eq_true rfl)⟩) (k_preT hPc hKc hDc hT (hXF.of rfl (State.WarmedH.refl s) (fun _ _ _ => rfl) oA_c) (k := 0) (by decide) cF_0 rfl) rfl rfl hl.1 rfl (lv_room (Nat.le_of_ble_eq_true rfl)) dL_shown_5 ⟨(Nat.le_of_ble_eq_true rfl), (Nat.le_of_ble_eq_true rfl)⟩) (fun _ _ _ h => h) (fun H qx ce hz hk hce hcv hcl => ?_)
  have hP := oP_keep hP hk
  have hS : va_S (wA ad 47) s.heap H [] := ⟨hz, fun q h1 _ => hk q h1, fun _ h => by cases h⟩
  refine vx_catch (own := RL) (name := IAE) hown (tableOf [(0, 10, 13, 13)]) ⟨0, 10, 17, 15⟩ (tableOf []) (by rw [htab]; rfl) (fun z hz => ?_) rfl (by decide) (hts (.classLink RL 15 IAE) (by decide +kernel)) (castE hXF.2.2 (Or.inr (Or.inl rfl))) hce hcv hcl ?_
  · have hz : z ∈ ([⟨0, 10, 13, 13⟩] : List ExceptionTableEntry) := hz
    rcases List.mem_cons.mp hz with rfl | hz
    · exact Or.inr ⟨by decide, IOOB, hts (.classLink RL 13 IOOB) (by decide +kernel), hC.1⟩
    cases hz
  refine lv_astore (lv' := [(4, .ref qx), (0, .ref (ad 0)), (1, .int (nI c)), (2, .int k), (3, .ref (ad 46))]) hx hb dL_shown_17 hl (by decide) rfl (fun ls hl => ?_)
  refine lv_iconst (v := nI 2) hx hb dL_shown_19 (by decide) ?_
  exact hret H [] _ _ 20 ls (nI 2) _ hP hS dL_shown_20 rfl rfl (Nat.le_of_ble_eq_true rfl) (Nat.le_of_ble_eq_true rfl)
set_option maxHeartbeats 4000000 in
set_option maxRecDepth 100000 in
theorem w_edit_a (l : Launch) (D : va_G) (cI : ClassId) (cA : ClassId) (ad : Nat → Nat) (n : Nat) (x : Nat → Nat → Int32) (c : Nat) (k : Nat) (w : Nat) (cL : ClassId) (o : Nat → Int64) (hc : c < n) (hn : n ≤ 24) (hk : k < 2) (hw : w < 30) (hsh : hasB (orF (x 9 c) (x (k + 16)) n) w = true) : Met l yL_edit wsL_edit ({ frames := 4, cells := 1, slots := 6, locals := 98 }) (va_Pc [.ref (ad 0), .int (nI c), .int (nI k), .int (nI w), .ref (ad 46)] (wO D cI cA cL ad n x o)) (qO D ad (oF cI cA cL ad n (tkS x (x 9 c) k w n) (oW o (tkC x (x 9 c) k w n).toInt64)) 47 (nI 0)) 1 6 (wA ad 47) := by
  refine c_ofO (cc := cL_edit) (maxL := 6) (hh := [(0, 12, 15, 13), (0, 12, 19, 15)]) (by decide) rfl (Nat.le_of_ble_eq_true rfl) ?_
  intro p e s m av below meth cd Q hx hb hF htab hP hK hD hT hXF hC hret ls hl
  have hown : s.vm.findClass RL = some m.cls := hF.2.2.2.1
  have hF : CallFix p m cd cL_edit 6 s av wsL_edit RL := hF
  have hts := hF.2.2.2.2
  have hl : lv_has ls 6 [(0, .ref (ad 0)), (1, .int (nI c)), (2, .int (nI k)), (3, .int (nI w)), (4, .ref (ad 46))] := hl
  have hPc := oP_c hP
  have hKc := hK.sub (tys' := [(cI, .int), (cA, .array .int)]) [0, 1] rfl
  have hDc := oD_c hD
  refine lv_aload hx hb dL_edit_0 (lv_at hl 4 rfl) ?_
  refine lv_iconst (v := nI 0) hx hb dL_edit_2 (by decide) ?_
  refine lv_aload_n hx hb dL_edit_3 rfl (lv_at hl 0 rfl) ?_
  refine lv_iload_n hx hb dL_edit_4 rfl (lv_at hl 1 rfl) ?_
  refine lv_iload_n hx hb dL_edit_5 rfl (lv_at hl 2 rfl) ?_
  refine lv_iload_n hx hb dL_edit_6 rfl (lv_at hl 3 rfl) ?_
  refine k_Wi (va_runV (As := [.int (nI c), .int (nI k), .int (nI w)]) (rest := [.int (nI 0), .ref (ad 46)]) hF (c_X3_edit_a l D cI cA ad n x c k w hc hn hk hw hsh) (cwV 3 hts gL_edit_X3_edit rfl rfl rfl (by decide +kernel) ⟨(Nat.le_of_ble_eq_true rfl), (Nat.le_of_ble_eq_true rfl)⟩) (k_pre hPc hKc hDc hT (k := 0) (by decide) cF_0 rfl) rfl rfl hl.1 rfl (lv_room (Nat.le_of_ble_eq_true rfl)) dL_edit_7 ⟨Nat.zero_le _, Nat.zero_le _⟩) hDc (sS.rf (A := wA ad 46)) (fun H locs hP1 hS1 => ?_)
  have hP := oP_call hD hP hP1 hS1.1.2.1
  have hS : va_S (wA ad 47) s.heap H locs := vS_up oA_c hS1.1
  refine lv_i2l hx hb dL_edit_10 rfl ?_
  refine r_last hx hb hK hP hD hS rfl dL_edit_11 (fun H locs hP hS => ?_)
  refine lv_goto (tgt := 23) hx hb dL_edit_12 (by decide) ?_
  refine lv_iconst (v := nI 0) hx hb dL_edit_23 (by decide) ?_
  exact hret H locs _ _ 24 ls (nI 0) _ hP hS dL_edit_24 rfl rfl (Nat.zero_le _) (Nat.zero_le _)
set_option maxHeartbeats 4000000 in
set_option maxRecDepth 100000 in
theorem w_edit_b (l : Launch) (D : va_G) (cI : ClassId) (cA : ClassId) (ad : Nat → Nat) (n : Nat) (x : Nat → Nat → Int32) (c : Nat) (k : Nat) (w : Nat) (cL : ClassId) (o : Nat → Int64) (hc : c < n) (hn : n ≤ 24) (hk : k < 2) (hw : w < 30) (hsh : hasB (orF (x 9 c) (x (k + 16)) n) w = false) : Met l yL_edit wsL_edit ({ frames := 3, cells := 1, slots := 6, locals := 72 }) (va_Pc [.ref (ad 0), .int (nI c), .int (nI k), .int (nI w), .ref (ad 46)] (wO D cI cA cL ad n x o)) (qO D ad (oF cI cA cL ad n (putS x (prefF (x 4) (x 9 c) c n) 0 k (x (k + 16) (prefF (x 4) (x 9 c) c n) ||| bit w)) (oW o (bit (prefF (x 4) (x 9 c) c n)).toInt64)) 47 (nI 0)) 1 6 (wA ad 47) := by
  refine c_ofO (cc := cL_edit) (maxL := 6) (hh := [(0, 12, 15, 13), (0, 12, 19, 15)]) (by decide) rfl (Nat.le_of_ble_eq_true rfl) ?_
  intro p e s m av below meth cd Q hx hb hF htab hP hK hD hT hXF hC hret ls hl
  have hown : s.vm.findClass RL = some m.cls := hF.2.2.2.1
  have hF : CallFix p m cd cL_edit 6 s av wsL_edit RL := hF
  have hts := hF.2.2.2.2
  have hl : lv_has ls 6 [(0, .ref (ad 0)), (1, .int (nI c)), (2, .int (nI k)), (3, .int (nI w)), (4, .ref (ad 46))] := hl
  have hPc := oP_c hP
  have hKc := hK.sub (tys' := [(cI, .int), (cA, .array .int)]) [0, 1] rfl
  have hDc := oD_c hD
  refine lv_aload hx hb dL_edit_0 (lv_at hl 4 rfl) ?_
  refine lv_iconst (v := nI 0) hx hb dL_edit_2 (by decide) ?_
  refine lv_aload_n hx hb dL_edit_3 rfl (lv_at hl 0 rfl) ?_
  refine lv_iload_n hx hb dL_edit_4 rfl (lv_at hl 1 rfl) ?_
  refine lv_iload_n hx hb dL_edit_5 rfl (lv_at hl 2 rfl) ?_
  refine lv_iload_n hx hb dL_edit_6 rfl (lv_at hl 3 rfl) ?_
  refine k_Wi (va_runV (As := [.int (nI c), .int (nI k), .int (nI w)]) (rest := [.int (nI 0), .ref (ad 46)]) hF (c_X3_edit_b l D cI cA ad n x c k w hc hn hk hw hsh) (cwV 3 hts gL_edit_X3_edit rfl rfl rfl (by decide +kernel) ⟨(Nat.le_of_ble_eq_true rfl), (Nat.le_of_ble_eq_true rfl)⟩) (k_pre hPc hKc hDc hT (k := 0) (by decide) cF_0 rfl) rfl rfl hl.1 rfl (lv_room (Nat.le_of_ble_eq_true rfl)) dL_edit_7 ⟨Nat.zero_le _, Nat.zero_le _⟩) hDc (sS.rf (A := wA ad 46)) (fun H locs hP1 hS1 => ?_)
  have hP := oP_call hD hP hP1 hS1.1.2.1
  have hS : va_S (wA ad 47) s.heap H locs := vS_up oA_c hS1.1
  refine lv_i2l hx hb dL_edit_10 rfl ?_
  refine r_last hx hb hK hP hD hS rfl dL_edit_11 (fun H locs hP hS => ?_)
  refine lv_goto (tgt := 23) hx hb dL_edit_12 (by decide) ?_
  refine lv_iconst (v := nI 0) hx hb dL_edit_23 (by decide) ?_
  exact hret H locs _ _ 24 ls (nI 0) _ hP hS dL_edit_24 rfl rfl (Nat.zero_le _) (Nat.zero_le _)
set_option maxHeartbeats 4000000 in
set_option maxRecDepth 100000 in
theorem w_edit_Ta (l : Launch) (D : va_G) (cI : ClassId) (cA : ClassId) (ad : Nat → Nat) (n : Nat) (x : Nat → Nat → Int32) (a : Int32) (k : Int32) (w : Int32) (cL : ClassId) (o : Nat → Int64) (hlt : l.stackTraces = false) (hca : cardB n a = false) : Met l yL_edit wsL_edit ({ frames := 8, cells := 1, slots := 6, locals := 128 }) (va_Pc [.ref (ad 0), .int a, .int k, .int w, .ref (ad 46)] (wO D cI cA cL ad n x o)) (qO D ad (oF cI cA cL ad n x o) 47 (nI 1)) 1 6 (wA ad 47) := by
  refine c_ofO (cc := cL_edit) (maxL := 6) (hh := [(0, 12, 15, 13), (0, 12, 19, 15)]) (by decide) rfl (Nat.le_of_ble_eq_true rfl) ?_
  intro p e s m av below meth cd Q hx hb hF htab hP hK hD hT hXF hC hret ls hl
  have hown : s.vm.findClass RL = some m.cls := hF.2.2.2.1
  have hF : CallFix p m cd cL_edit 6 s av wsL_edit RL := hF
  have hts := hF.2.2.2.2
  have hl : lv_has ls 6 [(0, .ref (ad 0)), (1, .int a), (2, .int k), (3, .int w), (4, .ref (ad 46))] := hl
  have hPc := oP_c hP
  have hKc := hK.sub (tys' := [(cI, .int), (cA, .array .int)]) [0, 1] rfl
  have hDc := oD_c hD
  refine lv_aload hx hb dL_edit_0 (lv_at hl 4 rfl) ?_
  refine lv_iconst (v := nI 0) hx hb dL_edit_2 (by decide) ?_
  refine lv_aload_n hx hb dL_edit_3 rfl (lv_at hl 0 rfl) ?_
  refine lv_iload_n hx hb dL_edit_4 rfl (lv_at hl 1 rfl) ?_
  refine lv_iload_n hx hb dL_edit_5 rfl (lv_at hl 2 rfl) ?_
  refine lv_iload_n hx hb dL_edit_6 rfl (lv_at hl 3 rfl) ?_
  refine k_T (vx_runV (As := [.int a, .int k, .int w]) (rest := [.int (nI 0), .ref (ad 46)]) hF (c_X3_edit_Ta l D cI cA ad n x a k w hlt hca) (cwV 3 hts gL_edit_X3_edit rfl rfl rfl (by decide +kernel) ⟨(Nat.le_of_ble_eq_true rfl), (Nat.le_of_ble_eq_true rfl)⟩) (k_preT hPc hKc hDc hT (hXF.of rfl (State.WarmedH.refl s) (fun _ _ _ => rfl) oA_c) (k := 0) (by decide) cF_0 rfl) rfl rfl hl.1 rfl (lv_room (Nat.le_of_ble_eq_true rfl)) dL_edit_7 ⟨(Nat.le_of_ble_eq_true rfl), (Nat.le_of_ble_eq_true rfl)⟩) (fun _ _ _ h => h) (fun H qx ce hz hk hce hcv hcl => ?_)
  have hP := oP_keep hP hk
  have hS : va_S (wA ad 47) s.heap H [] := ⟨hz, fun q h1 _ => hk q h1, fun _ h => by cases h⟩
  refine vx_catch (own := RL) (name := IOOB) hown (tableOf []) ⟨0, 12, 15, 13⟩ (tableOf [(0, 12, 19, 15)]) (by rw [htab]; rfl) (fun z hz => ?_) rfl (by decide) (hts (.classLink RL 13 IOOB) (by decide +kernel)) (castE hXF.2.2 (Or.inl rfl)) hce hcv hcl ?_
  · cases hz
  refine lv_astore (lv' := [(5, .ref qx), (0, .ref (ad 0)), (1, .int a), (2, .int k), (3, .int w), (4, .ref (ad 46))]) hx hb dL_edit_15 hl (by decide) rfl (fun ls hl => ?_)
  refine lv_iconst (v := nI 1) hx hb dL_edit_17 (by decide) ?_
  exact hret H [] _ _ 18 ls (nI 1) _ hP hS dL_edit_18 rfl rfl (Nat.le_of_ble_eq_true rfl) (Nat.le_of_ble_eq_true rfl)
set_option maxHeartbeats 4000000 in
set_option maxRecDepth 100000 in
theorem w_edit_Tb (l : Launch) (D : va_G) (cI : ClassId) (cA : ClassId) (ad : Nat → Nat) (n : Nat) (x : Nat → Nat → Int32) (c : Nat) (k : Int32) (w : Int32) (cL : ClassId) (o : Nat → Int64) (hlt : l.stackTraces = false) (hc : c < n) (hn : n ≤ 24) (hbad : (kindB k && valueB w) = false) : Met l yL_edit wsL_edit ({ frames := 8, cells := 1, slots := 6, locals := 127 }) (va_Pc [.ref (ad 0), .int (nI c), .int k, .int w, .ref (ad 46)] (wO D cI cA cL ad n x o)) (qO D ad (oF cI cA cL ad n x o) 47 (nI 2)) 1 6 (wA ad 47) := by
  refine c_ofO (cc := cL_edit) (maxL := 6) (hh := [(0, 12, 15, 13), (0, 12, 19, 15)]) (by decide) rfl (Nat.le_of_ble_eq_true rfl) ?_
  intro p e s m av below meth cd Q hx hb hF htab hP hK hD hT hXF hC hret ls hl
  have hown : s.vm.findClass RL = some m.cls := hF.2.2.2.1
  have hF : CallFix p m cd cL_edit 6 s av wsL_edit RL := hF
  have hts := hF.2.2.2.2
  have hl : lv_has ls 6 [(0, .ref (ad 0)), (1, .int (nI c)), (2, .int k), (3, .int w), (4, .ref (ad 46))] := hl
  have hPc := oP_c hP
  have hKc := hK.sub (tys' := [(cI, .int), (cA, .array .int)]) [0, 1] rfl
  have hDc := oD_c hD
  refine lv_aload hx hb dL_edit_0 (lv_at hl 4 rfl) ?_
  refine lv_iconst (v := nI 0) hx hb dL_edit_2 (by decide) ?_
  refine lv_aload_n hx hb dL_edit_3 rfl (lv_at hl 0 rfl) ?_
  refine lv_iload_n hx hb dL_edit_4 rfl (lv_at hl 1 rfl) ?_
  refine lv_iload_n hx hb dL_edit_5 rfl (lv_at hl 2 rfl) ?_
  refine lv_iload_n hx hb dL_edit_6 rfl (lv_at hl 3 rfl) ?_
  refine k_T (vx_runV (As := [.int (nI c), .int k, .int w]) (rest := [.int (nI 0), .ref (ad 46)]) hF (c_X3_edit_Tb l D cI cA ad n x c k w hlt hc hn hbad) (cwV 3 hts gL_edit_X3_edit rfl rfl rfl (by decide +kernel) ⟨(Nat.le_of_ble_eq_true rfl), (Nat.le_of_ble_eq_true rfl)⟩) (k_preT hPc hKc hDc hT (hXF.of rfl (State.WarmedH.refl s) (fun _ _ _ => rfl) oA_c) (k := 0) (by decide) cF_0 rfl) rfl rfl hl.1 rfl (lv_room (Nat.le_of_ble_eq_true rfl)) dL_edit_7 ⟨(Nat.le_of_ble_eq_true rfl), (Nat.le_of_ble_eq_true rfl)⟩) (fun _ _ _ h => h) (fun H qx ce hz hk hce hcv hcl => ?_)
  have hP := oP_keep hP hk
  have hS : va_S (wA ad 47) s.heap H [] := ⟨hz, fun q h1 _ => hk q h1, fun _ h => by cases h⟩
  refine vx_catch (own := RL) (name := IAE) hown (tableOf [(0, 12, 15, 13)]) ⟨0, 12, 19, 15⟩ (tableOf []) (by rw [htab]; rfl) (fun z hz => ?_) rfl (by decide) (hts (.classLink RL 15 IAE) (by decide +kernel)) (castE hXF.2.2 (Or.inr (Or.inl rfl))) hce hcv hcl ?_
  · have hz : z ∈ ([⟨0, 12, 15, 13⟩] : List ExceptionTableEntry) := hz
    rcases List.mem_cons.mp hz with rfl | hz
    · exact Or.inr ⟨by decide, IOOB, hts (.classLink RL 13 IOOB) (by decide +kernel), hC.1⟩
    cases hz
  refine lv_astore (lv' := [(5, .ref qx), (0, .ref (ad 0)), (1, .int (nI c)), (2, .int k), (3, .int w), (4, .ref (ad 46))]) hx hb dL_edit_19 hl (by decide) rfl (fun ls hl => ?_)
  refine lv_iconst (v := nI 2) hx hb dL_edit_21 (by decide) ?_
  exact hret H [] _ _ 22 ls (nI 2) _ hP hS dL_edit_22 rfl rfl (Nat.le_of_ble_eq_true rfl) (Nat.le_of_ble_eq_true rfl)
set_option maxHeartbeats 4000000 in
set_option maxRecDepth 100000 in
theorem w_score_0 (l : Launch) (D : va_G) (cI : ClassId) (cA : ClassId) (ad : Nat → Nat) (n : Nat) (x : Nat → Nat → Int32) (c : Nat) (d : Nat) (cL : ClassId) (o : Nat → Int64) (hc : c < n) (hd : d < n) (hne : c ≠ d) (hn : n ≤ 24) : Met l yL_score wsL_score ({ frames := 4, cells := 1, slots := 6, locals := 92 }) (va_Pc [.ref (ad 0), .int (nI c), .int (nI d), .ref (ad 46)] (wO D cI cA cL ad n x o)) (qO D ad (oF cI cA cL ad n x (oW o (sc x c d).toInt64)) 47 (nI 0)) 1 6 (wA ad 47) := by
  refine c_ofO (cc := cL_score) (maxL := 5) (hh := [(0, 10, 13, 13), (0, 10, 17, 15)]) (by decide) rfl (Nat.le_of_ble_eq_true rfl) ?_
  intro p e s m av below meth cd Q hx hb hF htab hP hK hD hT hXF hC hret ls hl
  have hown : s.vm.findClass RL = some m.cls := hF.2.2.2.1
  have hF : CallFix p m cd cL_score 5 s av wsL_score RL := hF
  have hts := hF.2.2.2.2
  have hl : lv_has ls 5 [(0, .ref (ad 0)), (1, .int (nI c)), (2, .int (nI d)), (3, .ref (ad 46))] := hl
  have hPc := oP_c hP
  have hKc := hK.sub (tys' := [(cI, .int), (cA, .array .int)]) [0, 1] rfl
  have hDc := oD_c hD
  refine lv_aload_n hx hb dL_score_0 rfl (lv_at hl 3 rfl) ?_
  refine lv_iconst (v := nI 0) hx hb dL_score_1 (by decide) ?_
  refine lv_aload_n hx hb dL_score_2 rfl (lv_at hl 0 rfl) ?_
  refine lv_iload_n hx hb dL_score_3 rfl (lv_at hl 1 rfl) ?_
  refine lv_iload_n hx hb dL_score_4 rfl (lv_at hl 2 rfl) ?_
  refine k_Ri (va_runV (As := [.int (nI c), .int (nI d)]) (rest := [.int (nI 0), .ref (ad 46)]) hF (c_X3_score l D cI cA ad n x c d hc hd hne hn) (cwV 2 hts gL_score_X3_score rfl rfl rfl (by decide +kernel) ⟨(Nat.le_of_ble_eq_true rfl), (Nat.le_of_ble_eq_true rfl)⟩) (k_pre hPc hKc hDc hT (k := 0) (by decide) cF_0 rfl) rfl rfl hl.1 rfl (lv_room (Nat.le_of_ble_eq_true rfl)) dL_score_5 ⟨Nat.zero_le _, Nat.zero_le _⟩) ?_
  have hS : va_S (wA ad 47) s.heap s.heap [] := va_S.rf
  refine lv_i2l hx hb dL_score_8 rfl ?_
  refine r_last hx hb hK hP hD hS rfl dL_score_9 (fun H locs hP hS => ?_)
  refine lv_goto (tgt := 21) hx hb dL_score_10 (by decide) ?_
  refine lv_iconst (v := nI 0) hx hb dL_score_21 (by decide) ?_
  exact hret H locs _ _ 22 ls (nI 0) _ hP hS dL_score_22 rfl rfl (Nat.zero_le _) (Nat.zero_le _)
set_option maxHeartbeats 4000000 in
set_option maxRecDepth 100000 in
theorem w_score_Ta (l : Launch) (D : va_G) (cI : ClassId) (cA : ClassId) (ad : Nat → Nat) (n : Nat) (x : Nat → Nat → Int32) (a : Int32) (b : Int32) (cL : ClassId) (o : Nat → Int64) (hlt : l.stackTraces = false) (hca : cardB n a = false) : Met l yL_score wsL_score ({ frames := 9, cells := 1, slots := 6, locals := 147 }) (va_Pc [.ref (ad 0), .int a, .int b, .ref (ad 46)] (wO D cI cA cL ad n x o)) (qO D ad (oF cI cA cL ad n x o) 47 (nI 1)) 1 6 (wA ad 47) := by
  refine c_ofO (cc := cL_score) (maxL := 5) (hh := [(0, 10, 13, 13), (0, 10, 17, 15)]) (by decide) rfl (Nat.le_of_ble_eq_true rfl) ?_
  intro p e s m av below meth cd Q hx hb hF htab hP hK hD hT hXF hC hret ls hl
  have hown : s.vm.findClass RL = some m.cls := hF.2.2.2.1
  have hF : CallFix p m cd cL_score 5 s av wsL_score RL := hF
  have hts := hF.2.2.2.2
  have hl : lv_has ls 5 [(0, .ref (ad 0)), (1, .int a), (2, .int b), (3, .ref (ad 46))] := hl
  have hPc := oP_c hP
  have hKc := hK.sub (tys' := [(cI, .int), (cA, .array .int)]) [0, 1] rfl
  have hDc := oD_c hD
  refine lv_aload_n hx hb dL_score_0 rfl (lv_at hl 3 rfl) ?_
  refine lv_iconst (v := nI 0) hx hb dL_score_1 (by decide) ?_
  refine lv_aload_n hx hb dL_score_2 rfl (lv_at hl 0 rfl) ?_
  refine lv_iload_n hx hb dL_score_3 rfl (lv_at hl 1 rfl) ?_
  refine lv_iload_n hx hb dL_score_4 rfl (lv_at hl 2 rfl) ?_
  refine k_T (vx_runV (As := [.int a, .int b]) (rest := [.int (nI 0), .ref (ad 46)]) hF (c_X3_score_Ta l D cI cA ad n x a b hlt hca) (cwV 2 hts gL_score_X3_score rfl rfl rfl (by decide +kernel) ⟨(Nat.le_of_ble_eq_true rfl), (Nat.le_of_ble_eq_true rfl)⟩) (k_preT hPc hKc hDc hT (hXF.of rfl (State.WarmedH.refl s) (fun _ _ _ => rfl) oA_c) (k := 0) (by decide) cF_0 rfl) rfl rfl hl.1 rfl (lv_room (Nat.le_of_ble_eq_true rfl)) dL_score_5 ⟨(Nat.le_of_ble_eq_true rfl), (Nat.le_of_ble_eq_true rfl)⟩) (fun _ _ _ h => h) (fun H qx ce hz hk hce hcv hcl => ?_)
  have hP := oP_keep hP hk
  have hS : va_S (wA ad 47) s.heap H [] := ⟨hz, fun q h1 _ => hk q h1, fun _ h => by cases h⟩
  refine vx_catch (own := RL) (name := IOOB) hown (tableOf []) ⟨0, 10, 13, 13⟩ (tableOf [(0, 10, 17, 15)]) (by rw [htab]; rfl) (fun z hz => ?_) rfl (by decide) (hts (.classLink RL 13 IOOB) (by decide +kernel)) (castE hXF.2.2 (Or.inl rfl)) hce hcv hcl ?_
  · cases hz
  refine lv_astore (lv' := [(4, .ref qx), (0, .ref (ad 0)), (1, .int a), (2, .int b), (3, .ref (ad 46))]) hx hb dL_score_13 hl (by decide) rfl (fun ls hl => ?_)
  refine lv_iconst (v := nI 1) hx hb dL_score_15 (by decide) ?_
  exact hret H [] _ _ 16 ls (nI 1) _ hP hS dL_score_16 rfl rfl (Nat.le_of_ble_eq_true rfl) (Nat.le_of_ble_eq_true rfl)
set_option maxHeartbeats 4000000 in
set_option maxRecDepth 100000 in
theorem w_score_Tb (l : Launch) (D : va_G) (cI : ClassId) (cA : ClassId) (ad : Nat → Nat) (n : Nat) (x : Nat → Nat → Int32) (c : Nat) (b : Int32) (cL : ClassId) (o : Nat → Int64) (hlt : l.stackTraces = false) (hc : c < n) (hn : n ≤ 24) (hcb : cardB n b = false) : Met l yL_score wsL_score ({ frames := 9, cells := 1, slots := 6, locals := 147 }) (va_Pc [.ref (ad 0), .int (nI c), .int b, .ref (ad 46)] (wO D cI cA cL ad n x o)) (qO D ad (oF cI cA cL ad n x o) 47 (nI 1)) 1 6 (wA ad 47) := by
  refine c_ofO (cc := cL_score) (maxL := 5) (hh := [(0, 10, 13, 13), (0, 10, 17, 15)]) (by decide) rfl (Nat.le_of_ble_eq_true rfl) ?_
  intro p e s m av below meth cd Q hx hb hF htab hP hK hD hT hXF hC hret ls hl
  have hown : s.vm.findClass RL = some m.cls := hF.2.2.2.1
  have hF : CallFix p m cd cL_score 5 s av wsL_score RL := hF
  have hts := hF.2.2.2.2
  have hl : lv_has ls 5 [(0, .ref (ad 0)), (1, .int (nI c)), (2, .int b), (3, .ref (ad 46))] := hl
  have hPc := oP_c hP
  have hKc := hK.sub (tys' := [(cI, .int), (cA, .array .int)]) [0, 1] rfl
  have hDc := oD_c hD
  refine lv_aload_n hx hb dL_score_0 rfl (lv_at hl 3 rfl) ?_
  refine lv_iconst (v := nI 0) hx hb dL_score_1 (by decide) ?_
  refine lv_aload_n hx hb dL_score_2 rfl (lv_at hl 0 rfl) ?_
  refine lv_iload_n hx hb dL_score_3 rfl (lv_at hl 1 rfl) ?_
  refine lv_iload_n hx hb dL_score_4 rfl (lv_at hl 2 rfl) ?_
  refine k_T (vx_runV (As := [.int (nI c), .int b]) (rest := [.int (nI 0), .ref (ad 46)]) hF (c_X3_score_Tb l D cI cA ad n x c b hlt hc hn hcb) (cwV 2 hts gL_score_X3_score rfl rfl rfl (by decide +kernel) ⟨(Nat.le_of_ble_eq_true rfl), (Nat.le_of_ble_eq_true rfl)⟩) (k_preT hPc hKc hDc hT (hXF.of rfl (State.WarmedH.refl s) (fun _ _ _ => rfl) oA_c) (k := 0) (by decide) cF_0 rfl) rfl rfl hl.1 rfl (lv_room (Nat.le_of_ble_eq_true rfl)) dL_score_5 ⟨(Nat.le_of_ble_eq_true rfl), (Nat.le_of_ble_eq_true rfl)⟩) (fun _ _ _ h => h) (fun H qx ce hz hk hce hcv hcl => ?_)
  have hP := oP_keep hP hk
  have hS : va_S (wA ad 47) s.heap H [] := ⟨hz, fun q h1 _ => hk q h1, fun _ h => by cases h⟩
  refine vx_catch (own := RL) (name := IOOB) hown (tableOf []) ⟨0, 10, 13, 13⟩ (tableOf [(0, 10, 17, 15)]) (by rw [htab]; rfl) (fun z hz => ?_) rfl (by decide) (hts (.classLink RL 13 IOOB) (by decide +kernel)) (castE hXF.2.2 (Or.inl rfl)) hce hcv hcl ?_
  · cases hz
  refine lv_astore (lv' := [(4, .ref qx), (0, .ref (ad 0)), (1, .int (nI c)), (2, .int b), (3, .ref (ad 46))]) hx hb dL_score_13 hl (by decide) rfl (fun ls hl => ?_)
  refine lv_iconst (v := nI 1) hx hb dL_score_15 (by decide) ?_
  exact hret H [] _ _ 16 ls (nI 1) _ hP hS dL_score_16 rfl rfl (Nat.le_of_ble_eq_true rfl) (Nat.le_of_ble_eq_true rfl)
set_option maxHeartbeats 4000000 in
set_option maxRecDepth 100000 in
theorem w_score_Tc (l : Launch) (D : va_G) (cI : ClassId) (cA : ClassId) (ad : Nat → Nat) (n : Nat) (x : Nat → Nat → Int32) (c : Nat) (cL : ClassId) (o : Nat → Int64) (hlt : l.stackTraces = false) (hc : c < n) (hn : n ≤ 24) : Met l yL_score wsL_score ({ frames := 9, cells := 1, slots := 6, locals := 146 }) (va_Pc [.ref (ad 0), .int (nI c), .int (nI c), .ref (ad 46)] (wO D cI cA cL ad n x o)) (qO D ad (oF cI cA cL ad n x o) 47 (nI 2)) 1 6 (wA ad 47) := by
  refine c_ofO (cc := cL_score) (maxL := 5) (hh := [(0, 10, 13, 13), (0, 10, 17, 15)]) (by decide) rfl (Nat.le_of_ble_eq_true rfl) ?_
  intro p e s m av below meth cd Q hx hb hF htab hP hK hD hT hXF hC hret ls hl
  have hown : s.vm.findClass RL = some m.cls := hF.2.2.2.1
  have hF : CallFix p m cd cL_score 5 s av wsL_score RL := hF
  have hts := hF.2.2.2.2
  have hl : lv_has ls 5 [(0, .ref (ad 0)), (1, .int (nI c)), (2, .int (nI c)), (3, .ref (ad 46))] := hl
  have hPc := oP_c hP
  have hKc := hK.sub (tys' := [(cI, .int), (cA, .array .int)]) [0, 1] rfl
  have hDc := oD_c hD
  refine lv_aload_n hx hb dL_score_0 rfl (lv_at hl 3 rfl) ?_
  refine lv_iconst (v := nI 0) hx hb dL_score_1 (by decide) ?_
  refine lv_aload_n hx hb dL_score_2 rfl (lv_at hl 0 rfl) ?_
  refine lv_iload_n hx hb dL_score_3 rfl (lv_at hl 1 rfl) ?_
  refine lv_iload_n hx hb dL_score_4 rfl (lv_at hl 2 rfl) ?_
  refine k_T (vx_runV (As := [.int (nI c), .int (nI c)]) (rest := [.int (nI 0), .ref (ad 46)]) hF (c_X3_score_Tc l D cI cA ad n x c hlt hc hn) (cwV 2 hts gL_score_X3_score rfl rfl rfl (by decide +kernel) ⟨(Nat.le_of_ble_eq_true rfl), (Nat.le_of_ble_eq_true rfl)⟩) (k_preT hPc hKc hDc hT (hXF.of rfl (State.WarmedH.refl s) (fun _ _ _ => rfl) oA_c) (k := 0) (by decide) cF_0 rfl) rfl rfl hl.1 rfl (lv_room (Nat.le_of_ble_eq_true rfl)) dL_score_5 ⟨(Nat.le_of_ble_eq_true rfl), (Nat.le_of_ble_eq_true rfl)⟩) (fun _ _ _ h => h) (fun H qx ce hz hk hce hcv hcl => ?_)
  have hP := oP_keep hP hk
  have hS : va_S (wA ad 47) s.heap H [] := ⟨hz, fun q h1 _ => hk q h1, fun _ h => by cases h⟩
  refine vx_catch (own := RL) (name := IAE) hown (tableOf [(0, 10, 13, 13)]) ⟨0, 10, 17, 15⟩ (tableOf []) (by rw [htab]; rfl) (fun z hz => ?_) rfl (by decide) (hts (.classLink RL 15 IAE) (by decide +kernel)) (castE hXF.2.2 (Or.inr (Or.inl rfl))) hce hcv hcl ?_
  · have hz : z ∈ ([⟨0, 10, 13, 13⟩] : List ExceptionTableEntry) := hz
    rcases List.mem_cons.mp hz with rfl | hz
    · exact Or.inr ⟨by decide, IOOB, hts (.classLink RL 13 IOOB) (by decide +kernel), hC.1⟩
    cases hz
  refine lv_astore (lv' := [(4, .ref qx), (0, .ref (ad 0)), (1, .int (nI c)), (2, .int (nI c)), (3, .ref (ad 46))]) hx hb dL_score_17 hl (by decide) rfl (fun ls hl => ?_)
  refine lv_iconst (v := nI 2) hx hb dL_score_19 (by decide) ?_
  exact hret H [] _ _ 20 ls (nI 2) _ hP hS dL_score_20 rfl rfl (Nat.le_of_ble_eq_true rfl) (Nat.le_of_ble_eq_true rfl)
set_option maxHeartbeats 4000000 in
set_option maxRecDepth 100000 in
theorem w_pairAt_0 (l : Launch) (D : va_G) (cI : ClassId) (cA : ClassId) (ad : Nat → Nat) (n : Nat) (x : Nat → Nat → Int32) (q : Nat) (cL : ClassId) (o : Nat → Int64) (hn : n ≤ 24) (hq : q < 2 ^ 31) (hqt : nI q < tlC x n) : Met l yL_pairAt wsL_pairAt ({ frames := 6, cells := 1, slots := 6, locals := 141 }) (va_Pc [.ref (ad 0), .int (nI q), .ref (ad 46)] (wO D cI cA cL ad n x o)) (qO D ad (oF cI cA cL ad n (tlS x n) (oW o (pW (tlS x n) n 152 (nI q)).toInt64)) 47 (nI 0)) 1 6 (wA ad 47) := by
  refine c_ofO (cc := cL_pairAt) (maxL := 4) (hh := [(0, 9, 12, 13)]) (by decide) rfl (Nat.le_of_ble_eq_true rfl) ?_
  intro p e s m av below meth cd Q hx hb hF htab hP hK hD hT hXF hC hret ls hl
  have hown : s.vm.findClass RL = some m.cls := hF.2.2.2.1
  have hF : CallFix p m cd cL_pairAt 4 s av wsL_pairAt RL := hF
  have hts := hF.2.2.2.2
  have hl : lv_has ls 4 [(0, .ref (ad 0)), (1, .int (nI q)), (2, .ref (ad 46))] := hl
  have hPc := oP_c hP
  have hKc := hK.sub (tys' := [(cI, .int), (cA, .array .int)]) [0, 1] rfl
  have hDc := oD_c hD
  refine lv_aload_n hx hb dL_pairAt_0 rfl (lv_at hl 2 rfl) ?_
  refine lv_iconst (v := nI 0) hx hb dL_pairAt_1 (by decide) ?_
  refine lv_aload_n hx hb dL_pairAt_2 rfl (lv_at hl 0 rfl) ?_
  refine lv_iload_n hx hb dL_pairAt_3 rfl (lv_at hl 1 rfl) ?_
  refine k_Wi (va_runV (As := [.int (nI q)]) (rest := [.int (nI 0), .ref (ad 46)]) hF (c_X3_pairAt l D cI cA ad n x q hn hq hqt) (cwV 1 hts gL_pairAt_X3_pairAt rfl rfl rfl (by decide +kernel) ⟨(Nat.le_of_ble_eq_true rfl), (Nat.le_of_ble_eq_true rfl)⟩) (k_pre hPc hKc hDc hT (k := 0) (by decide) cF_0 rfl) rfl rfl hl.1 rfl (lv_room (Nat.le_of_ble_eq_true rfl)) dL_pairAt_4 ⟨Nat.zero_le _, Nat.zero_le _⟩) hDc (sS.rf (A := wA ad 46)) (fun H locs hP1 hS1 => ?_)
  have hP := oP_call hD hP hP1 hS1.1.2.1
  have hS : va_S (wA ad 47) s.heap H locs := vS_up oA_c hS1.1
  refine lv_i2l hx hb dL_pairAt_7 rfl ?_
  refine r_last hx hb hK hP hD hS rfl dL_pairAt_8 (fun H locs hP hS => ?_)
  refine lv_goto (tgt := 15) hx hb dL_pairAt_9 (by decide) ?_
  refine lv_iconst (v := nI 0) hx hb dL_pairAt_15 (by decide) ?_
  exact hret H locs _ _ 16 ls (nI 0) _ hP hS dL_pairAt_16 rfl rfl (Nat.zero_le _) (Nat.zero_le _)
set_option maxHeartbeats 4000000 in
set_option maxRecDepth 100000 in
theorem w_pairAt_Ta (l : Launch) (D : va_G) (cI : ClassId) (cA : ClassId) (ad : Nat → Nat) (n : Nat) (x : Nat → Nat → Int32) (q : Int32) (cL : ClassId) (o : Nat → Int64) (hlt : l.stackTraces = false) (hn : n ≤ 24) (hqt : ¬ (¬ q < 0 ∧ q < tlC x n)) : Met l yL_pairAt wsL_pairAt ({ frames := 7, cells := 1, slots := 6, locals := 140 }) (va_Pc [.ref (ad 0), .int q, .ref (ad 46)] (wO D cI cA cL ad n x o)) (qO D ad (oF cI cA cL ad n (tlS x n) o) 47 (nI 1)) 1 6 (wA ad 47) := by
  refine c_ofO (cc := cL_pairAt) (maxL := 4) (hh := [(0, 9, 12, 13)]) (by decide) rfl (Nat.le_of_ble_eq_true rfl) ?_
  intro p e s m av below meth cd Q hx hb hF htab hP hK hD hT hXF hC hret ls hl
  have hown : s.vm.findClass RL = some m.cls := hF.2.2.2.1
  have hF : CallFix p m cd cL_pairAt 4 s av wsL_pairAt RL := hF
  have hts := hF.2.2.2.2
  have hl : lv_has ls 4 [(0, .ref (ad 0)), (1, .int q), (2, .ref (ad 46))] := hl
  have hPc := oP_c hP
  have hKc := hK.sub (tys' := [(cI, .int), (cA, .array .int)]) [0, 1] rfl
  have hDc := oD_c hD
  refine lv_aload_n hx hb dL_pairAt_0 rfl (lv_at hl 2 rfl) ?_
  refine lv_iconst (v := nI 0) hx hb dL_pairAt_1 (by decide) ?_
  refine lv_aload_n hx hb dL_pairAt_2 rfl (lv_at hl 0 rfl) ?_
  refine lv_iload_n hx hb dL_pairAt_3 rfl (lv_at hl 1 rfl) ?_
  refine k_TE (vx_runV (As := [.int q]) (rest := [.int (nI 0), .ref (ad 46)]) hF (c_X3_pairAt_Ta l D cI cA ad n x q hlt hn hqt) (cwV 1 hts gL_pairAt_X3_pairAt rfl rfl rfl (by decide +kernel) ⟨(Nat.le_of_ble_eq_true rfl), (Nat.le_of_ble_eq_true rfl)⟩) (k_preT hPc hKc hDc hT (hXF.of rfl (State.WarmedH.refl s) (fun _ _ _ => rfl) oA_c) (k := 0) (by decide) cF_0 rfl) rfl rfl hl.1 rfl (lv_room (Nat.le_of_ble_eq_true rfl)) dL_pairAt_4 ⟨(Nat.le_of_ble_eq_true rfl), (Nat.le_of_ble_eq_true rfl)⟩) (fun _ _ _ h => h) (fun H L qx ce hP1 hz hk hL hce hcv hcl => ?_)
  have hP := oP_call hD hP hP1 hk
  have hS : va_S (wA ad 47) s.heap H ([] ++ L) := ⟨hz, fun q h1 h2 => hk q h1 (fun z => h2 (oA_c q z)), fun z h => oA_c _ (hL z (by simpa using h))⟩
  refine vx_catch (own := RL) (name := IOOB) hown (tableOf []) ⟨0, 9, 12, 13⟩ (tableOf []) (by rw [htab]; rfl) (fun z hz => ?_) rfl (by decide) (hts (.classLink RL 13 IOOB) (by decide +kernel)) (castE hXF.2.2 (Or.inl rfl)) hce hcv hcl ?_
  · cases hz
  refine lv_astore_n (lv' := [(3, .ref qx), (0, .ref (ad 0)), (1, .int q), (2, .ref (ad 46))]) hx hb dL_pairAt_12 rfl hl (by decide) rfl (fun ls hl => ?_)
  refine lv_iconst (v := nI 1) hx hb dL_pairAt_13 (by decide) ?_
  exact hret H ([] ++ L) _ _ 14 ls (nI 1) _ hP hS dL_pairAt_14 rfl rfl (Nat.le_of_ble_eq_true rfl) (Nat.le_of_ble_eq_true rfl)
set_option maxHeartbeats 4000000 in
set_option maxRecDepth 100000 in
theorem w_turnDown_g (l : Launch) (D : va_G) (cI : ClassId) (cA : ClassId) (ad : Nat → Nat) (n : Nat) (x : Nat → Nat → Int32) (c : Nat) (d : Nat) (cL : ClassId) (o : Nat → Int64) (hc : c < n) (hd : d < n) (hne : c ≠ d) (hn : n ≤ 24) (hsg : ¬ sg x c d = 0) : Met l yL_turnDown wsL_turnDown ({ frames := 6, cells := 1, slots := 6, locals := 139 }) (va_Pc [.ref (ad 0), .int (nI c), .int (nI d), .int (bI true), .ref (ad 46)] (wO D cI cA cL ad n x o)) (qO D ad (oF cI cA cL ad n (tlS (rfgX x c d) n) (oW o (tlC (rfgX x c d) n).toInt64)) 47 (nI 0)) 1 6 (wA ad 47) := by
  refine c_ofO (cc := cL_turnDown) (maxL := 6) (hh := [(0, 12, 15, 13), (0, 12, 19, 15), (0, 12, 23, 17)]) (by decide) rfl (Nat.le_of_ble_eq_true rfl) ?_
  intro p e s m av below meth cd Q hx hb hF htab hP hK hD hT hXF hC hret ls hl
  have hown : s.vm.findClass RL = some m.cls := hF.2.2.2.1
  have hF : CallFix p m cd cL_turnDown 6 s av wsL_turnDown RL := hF
  have hts := hF.2.2.2.2
  have hl : lv_has ls 6 [(0, .ref (ad 0)), (1, .int (nI c)), (2, .int (nI d)), (3, .int (bI true)), (4, .ref (ad 46))] := hl
  have hPc := oP_c hP
  have hKc := hK.sub (tys' := [(cI, .int), (cA, .array .int)]) [0, 1] rfl
  have hDc := oD_c hD
  refine lv_aload hx hb dL_turnDown_0 (lv_at hl 4 rfl) ?_
  refine lv_iconst (v := nI 0) hx hb dL_turnDown_2 (by decide) ?_
  refine lv_aload_n hx hb dL_turnDown_3 rfl (lv_at hl 0 rfl) ?_
  refine lv_iload_n hx hb dL_turnDown_4 rfl (lv_at hl 1 rfl) ?_
  refine lv_iload_n hx hb dL_turnDown_5 rfl (lv_at hl 2 rfl) ?_
  refine lv_iload_n hx hb dL_turnDown_6 rfl (lv_at hl 3 rfl) ?_
  refine k_Wi (va_runV (As := [.int (nI c), .int (nI d), .int (bI true)]) (rest := [.int (nI 0), .ref (ad 46)]) hF (c_X3_turnDown_g l D cI cA ad n x c d hc hd hne hn hsg) (cwV 3 hts gL_turnDown_X3_turnDown rfl rfl rfl (by decide +kernel) ⟨(Nat.le_of_ble_eq_true rfl), (Nat.le_of_ble_eq_true rfl)⟩) (k_pre hPc hKc hDc hT (k := 0) (by decide) cF_0 rfl) rfl rfl hl.1 rfl (lv_room (Nat.le_of_ble_eq_true rfl)) dL_turnDown_7 ⟨Nat.zero_le _, Nat.zero_le _⟩) hDc (sS.rf (A := wA ad 46)) (fun H locs hP1 hS1 => ?_)
  have hP := oP_call hD hP hP1 hS1.1.2.1
  have hS : va_S (wA ad 47) s.heap H locs := vS_up oA_c hS1.1
  refine lv_i2l hx hb dL_turnDown_10 rfl ?_
  refine r_last hx hb hK hP hD hS rfl dL_turnDown_11 (fun H locs hP hS => ?_)
  refine lv_goto (tgt := 27) hx hb dL_turnDown_12 (by decide) ?_
  refine lv_iconst (v := nI 0) hx hb dL_turnDown_27 (by decide) ?_
  exact hret H locs _ _ 28 ls (nI 0) _ hP hS dL_turnDown_28 rfl rfl (Nat.zero_le _) (Nat.zero_le _)
set_option maxHeartbeats 4000000 in
set_option maxRecDepth 100000 in
theorem w_turnDown_n (l : Launch) (D : va_G) (cI : ClassId) (cA : ClassId) (ad : Nat → Nat) (n : Nat) (x : Nat → Nat → Int32) (c : Nat) (d : Nat) (cL : ClassId) (o : Nat → Int64) (hc : c < n) (hd : d < n) (hne : c ≠ d) (hn : n ≤ 24) (hsg : ¬ sg x c d = 0) : Met l yL_turnDown wsL_turnDown ({ frames := 6, cells := 1, slots := 6, locals := 139 }) (va_Pc [.ref (ad 0), .int (nI c), .int (nI d), .int (bI false), .ref (ad 46)] (wO D cI cA cL ad n x o)) (qO D ad (oF cI cA cL ad n (tlS (rfnX x c d (mcOf x c d)) n) (oW o (tlC (rfnX x c d (mcOf x c d)) n).toInt64)) 47 (nI 0)) 1 6 (wA ad 47) := by
  refine c_ofO (cc := cL_turnDown) (maxL := 6) (hh := [(0, 12, 15, 13), (0, 12, 19, 15), (0, 12, 23, 17)]) (by decide) rfl (Nat.le_of_ble_eq_true rfl) ?_
  intro p e s m av below meth cd Q hx hb hF htab hP hK hD hT hXF hC hret ls hl
  have hown : s.vm.findClass RL = some m.cls := hF.2.2.2.1
  have hF : CallFix p m cd cL_turnDown 6 s av wsL_turnDown RL := hF
  have hts := hF.2.2.2.2
  have hl : lv_has ls 6 [(0, .ref (ad 0)), (1, .int (nI c)), (2, .int (nI d)), (3, .int (bI false)), (4, .ref (ad 46))] := hl
  have hPc := oP_c hP
  have hKc := hK.sub (tys' := [(cI, .int), (cA, .array .int)]) [0, 1] rfl
  have hDc := oD_c hD
  refine lv_aload hx hb dL_turnDown_0 (lv_at hl 4 rfl) ?_
  refine lv_iconst (v := nI 0) hx hb dL_turnDown_2 (by decide) ?_
  refine lv_aload_n hx hb dL_turnDown_3 rfl (lv_at hl 0 rfl) ?_
  refine lv_iload_n hx hb dL_turnDown_4 rfl (lv_at hl 1 rfl) ?_
  refine lv_iload_n hx hb dL_turnDown_5 rfl (lv_at hl 2 rfl) ?_
  refine lv_iload_n hx hb dL_turnDown_6 rfl (lv_at hl 3 rfl) ?_
  refine k_Wi (va_runV (As := [.int (nI c), .int (nI d), .int (bI false)]) (rest := [.int (nI 0), .ref (ad 46)]) hF (c_X3_turnDown_n l D cI cA ad n x c d hc hd hne hn hsg) (cwV 3 hts gL_turnDown_X3_turnDown rfl rfl rfl (by decide +kernel) ⟨(Nat.le_of_ble_eq_true rfl), (Nat.le_of_ble_eq_true rfl)⟩) (k_pre hPc hKc hDc hT (k := 0) (by decide) cF_0 rfl) rfl rfl hl.1 rfl (lv_room (Nat.le_of_ble_eq_true rfl)) dL_turnDown_7 ⟨Nat.zero_le _, Nat.zero_le _⟩) hDc (sS.rf (A := wA ad 46)) (fun H locs hP1 hS1 => ?_)
  have hP := oP_call hD hP hP1 hS1.1.2.1
  have hS : va_S (wA ad 47) s.heap H locs := vS_up oA_c hS1.1
  refine lv_i2l hx hb dL_turnDown_10 rfl ?_
  refine r_last hx hb hK hP hD hS rfl dL_turnDown_11 (fun H locs hP hS => ?_)
  refine lv_goto (tgt := 27) hx hb dL_turnDown_12 (by decide) ?_
  refine lv_iconst (v := nI 0) hx hb dL_turnDown_27 (by decide) ?_
  exact hret H locs _ _ 28 ls (nI 0) _ hP hS dL_turnDown_28 rfl rfl (Nat.zero_le _) (Nat.zero_le _)
set_option maxHeartbeats 4000000 in
set_option maxRecDepth 100000 in
theorem w_turnDown_Ta (l : Launch) (D : va_G) (cI : ClassId) (cA : ClassId) (ad : Nat → Nat) (n : Nat) (x : Nat → Nat → Int32) (a : Int32) (b : Int32) (g : Bool) (cL : ClassId) (o : Nat → Int64) (hlt : l.stackTraces = false) (hca : cardB n a = false) : Met l yL_turnDown wsL_turnDown ({ frames := 9, cells := 1, slots := 6, locals := 148 }) (va_Pc [.ref (ad 0), .int a, .int b, .int (bI g), .ref (ad 46)] (wO D cI cA cL ad n x o)) (qO D ad (oF cI cA cL ad n x o) 47 (nI 1)) 1 6 (wA ad 47) := by
  refine c_ofO (cc := cL_turnDown) (maxL := 6) (hh := [(0, 12, 15, 13), (0, 12, 19, 15), (0, 12, 23, 17)]) (by decide) rfl (Nat.le_of_ble_eq_true rfl) ?_
  intro p e s m av below meth cd Q hx hb hF htab hP hK hD hT hXF hC hret ls hl
  have hown : s.vm.findClass RL = some m.cls := hF.2.2.2.1
  have hF : CallFix p m cd cL_turnDown 6 s av wsL_turnDown RL := hF
  have hts := hF.2.2.2.2
  have hl : lv_has ls 6 [(0, .ref (ad 0)), (1, .int a), (2, .int b), (3, .int (bI g)), (4, .ref (ad 46))] := hl
  have hPc := oP_c hP
  have hKc := hK.sub (tys' := [(cI, .int), (cA, .array .int)]) [0, 1] rfl
  have hDc := oD_c hD
  refine lv_aload hx hb dL_turnDown_0 (lv_at hl 4 rfl) ?_
  refine lv_iconst (v := nI 0) hx hb dL_turnDown_2 (by decide) ?_
  refine lv_aload_n hx hb dL_turnDown_3 rfl (lv_at hl 0 rfl) ?_
  refine lv_iload_n hx hb dL_turnDown_4 rfl (lv_at hl 1 rfl) ?_
  refine lv_iload_n hx hb dL_turnDown_5 rfl (lv_at hl 2 rfl) ?_
  refine lv_iload_n hx hb dL_turnDown_6 rfl (lv_at hl 3 rfl) ?_
  refine k_T (vx_runV (As := [.int a, .int b, .int (bI g)]) (rest := [.int (nI 0), .ref (ad 46)]) hF (c_X3_turnDown_Ta l D cI cA ad n x a b g hlt hca) (cwV 3 hts gL_turnDown_X3_turnDown rfl rfl rfl (by decide +kernel) ⟨(Nat.le_of_ble_eq_true rfl), (Nat.le_of_ble_eq_true rfl)⟩) (k_preT hPc hKc hDc hT (hXF.of rfl (State.WarmedH.refl s) (fun _ _ _ => rfl) oA_c) (k := 0) (by decide) cF_0 rfl) rfl rfl hl.1 rfl (lv_room (Nat.le_of_ble_eq_true rfl)) dL_turnDown_7 ⟨(Nat.le_of_ble_eq_true rfl), (Nat.le_of_ble_eq_true rfl)⟩) (fun _ _ _ h => h) (fun H qx ce hz hk hce hcv hcl => ?_)
  have hP := oP_keep hP hk
  have hS : va_S (wA ad 47) s.heap H [] := ⟨hz, fun q h1 _ => hk q h1, fun _ h => by cases h⟩
  refine vx_catch (own := RL) (name := IOOB) hown (tableOf []) ⟨0, 12, 15, 13⟩ (tableOf [(0, 12, 19, 15), (0, 12, 23, 17)]) (by rw [htab]; rfl) (fun z hz => ?_) rfl (by decide) (hts (.classLink RL 13 IOOB) (by decide +kernel)) (castE hXF.2.2 (Or.inl rfl)) hce hcv hcl ?_
  · cases hz
  refine lv_astore (lv' := [(5, .ref qx), (0, .ref (ad 0)), (1, .int a), (2, .int b), (3, .int (bI g)), (4, .ref (ad 46))]) hx hb dL_turnDown_15 hl (by decide) rfl (fun ls hl => ?_)
  refine lv_iconst (v := nI 1) hx hb dL_turnDown_17 (by decide) ?_
  exact hret H [] _ _ 18 ls (nI 1) _ hP hS dL_turnDown_18 rfl rfl (Nat.le_of_ble_eq_true rfl) (Nat.le_of_ble_eq_true rfl)
set_option maxHeartbeats 4000000 in
set_option maxRecDepth 100000 in
theorem w_turnDown_Tb (l : Launch) (D : va_G) (cI : ClassId) (cA : ClassId) (ad : Nat → Nat) (n : Nat) (x : Nat → Nat → Int32) (c : Nat) (b : Int32) (g : Bool) (cL : ClassId) (o : Nat → Int64) (hlt : l.stackTraces = false) (hc : c < n) (hn : n ≤ 24) (hcb : cardB n b = false) : Met l yL_turnDown wsL_turnDown ({ frames := 9, cells := 1, slots := 6, locals := 148 }) (va_Pc [.ref (ad 0), .int (nI c), .int b, .int (bI g), .ref (ad 46)] (wO D cI cA cL ad n x o)) (qO D ad (oF cI cA cL ad n x o) 47 (nI 1)) 1 6 (wA ad 47) := by
  refine c_ofO (cc := cL_turnDown) (maxL := 6) (hh := [(0, 12, 15, 13), (0, 12, 19, 15), (0, 12, 23, 17)]) (by decide) rfl (Nat.le_of_ble_eq_true rfl) ?_
  intro p e s m av below meth cd Q hx hb hF htab hP hK hD hT hXF hC hret ls hl
  have hown : s.vm.findClass RL = some m.cls := hF.2.2.2.1
  have hF : CallFix p m cd cL_turnDown 6 s av wsL_turnDown RL := hF
  have hts := hF.2.2.2.2
  have hl : lv_has ls 6 [(0, .ref (ad 0)), (1, .int (nI c)), (2, .int b), (3, .int (bI g)), (4, .ref (ad 46))] := hl
  have hPc := oP_c hP
  have hKc := hK.sub (tys' := [(cI, .int), (cA, .array .int)]) [0, 1] rfl
  have hDc := oD_c hD
  refine lv_aload hx hb dL_turnDown_0 (lv_at hl 4 rfl) ?_
  refine lv_iconst (v := nI 0) hx hb dL_turnDown_2 (by decide) ?_
  refine lv_aload_n hx hb dL_turnDown_3 rfl (lv_at hl 0 rfl) ?_
  refine lv_iload_n hx hb dL_turnDown_4 rfl (lv_at hl 1 rfl) ?_
  refine lv_iload_n hx hb dL_turnDown_5 rfl (lv_at hl 2 rfl) ?_
  refine lv_iload_n hx hb dL_turnDown_6 rfl (lv_at hl 3 rfl) ?_
  refine k_T (vx_runV (As := [.int (nI c), .int b, .int (bI g)]) (rest := [.int (nI 0), .ref (ad 46)]) hF (c_X3_turnDown_Tb l D cI cA ad n x c b g hlt hc hn hcb) (cwV 3 hts gL_turnDown_X3_turnDown rfl rfl rfl (by decide +kernel) ⟨(Nat.le_of_ble_eq_true rfl), (Nat.le_of_ble_eq_true rfl)⟩) (k_preT hPc hKc hDc hT (hXF.of rfl (State.WarmedH.refl s) (fun _ _ _ => rfl) oA_c) (k := 0) (by decide) cF_0 rfl) rfl rfl hl.1 rfl (lv_room (Nat.le_of_ble_eq_true rfl)) dL_turnDown_7 ⟨(Nat.le_of_ble_eq_true rfl), (Nat.le_of_ble_eq_true rfl)⟩) (fun _ _ _ h => h) (fun H qx ce hz hk hce hcv hcl => ?_)
  have hP := oP_keep hP hk
  have hS : va_S (wA ad 47) s.heap H [] := ⟨hz, fun q h1 _ => hk q h1, fun _ h => by cases h⟩
  refine vx_catch (own := RL) (name := IOOB) hown (tableOf []) ⟨0, 12, 15, 13⟩ (tableOf [(0, 12, 19, 15), (0, 12, 23, 17)]) (by rw [htab]; rfl) (fun z hz => ?_) rfl (by decide) (hts (.classLink RL 13 IOOB) (by decide +kernel)) (castE hXF.2.2 (Or.inl rfl)) hce hcv hcl ?_
  · cases hz
  refine lv_astore (lv' := [(5, .ref qx), (0, .ref (ad 0)), (1, .int (nI c)), (2, .int b), (3, .int (bI g)), (4, .ref (ad 46))]) hx hb dL_turnDown_15 hl (by decide) rfl (fun ls hl => ?_)
  refine lv_iconst (v := nI 1) hx hb dL_turnDown_17 (by decide) ?_
  exact hret H [] _ _ 18 ls (nI 1) _ hP hS dL_turnDown_18 rfl rfl (Nat.le_of_ble_eq_true rfl) (Nat.le_of_ble_eq_true rfl)
set_option maxHeartbeats 4000000 in
set_option maxRecDepth 100000 in
theorem w_turnDown_Tc (l : Launch) (D : va_G) (cI : ClassId) (cA : ClassId) (ad : Nat → Nat) (n : Nat) (x : Nat → Nat → Int32) (c : Nat) (g : Bool) (cL : ClassId) (o : Nat → Int64) (hlt : l.stackTraces = false) (hc : c < n) (hn : n ≤ 24) : Met l yL_turnDown wsL_turnDown ({ frames := 9, cells := 1, slots := 6, locals := 147 }) (va_Pc [.ref (ad 0), .int (nI c), .int (nI c), .int (bI g), .ref (ad 46)] (wO D cI cA cL ad n x o)) (qO D ad (oF cI cA cL ad n x o) 47 (nI 2)) 1 6 (wA ad 47) := by
  refine c_ofO (cc := cL_turnDown) (maxL := 6) (hh := [(0, 12, 15, 13), (0, 12, 19, 15), (0, 12, 23, 17)]) (by decide) rfl (Nat.le_of_ble_eq_true rfl) ?_
  intro p e s m av below meth cd Q hx hb hF htab hP hK hD hT hXF hC hret ls hl
  have hown : s.vm.findClass RL = some m.cls := hF.2.2.2.1
  have hF : CallFix p m cd cL_turnDown 6 s av wsL_turnDown RL := hF
  have hts := hF.2.2.2.2
  have hl : lv_has ls 6 [(0, .ref (ad 0)), (1, .int (nI c)), (2, .int (nI c)), (3, .int (bI g)), (4, .ref (ad 46))] := hl
  have hPc := oP_c hP
  have hKc := hK.sub (tys' := [(cI, .int), (cA, .array .int)]) [0, 1] rfl
  have hDc := oD_c hD
  refine lv_aload hx hb dL_turnDown_0 (lv_at hl 4 rfl) ?_
  refine lv_iconst (v := nI 0) hx hb dL_turnDown_2 (by decide) ?_
  refine lv_aload_n hx hb dL_turnDown_3 rfl (lv_at hl 0 rfl) ?_
  refine lv_iload_n hx hb dL_turnDown_4 rfl (lv_at hl 1 rfl) ?_
  refine lv_iload_n hx hb dL_turnDown_5 rfl (lv_at hl 2 rfl) ?_
  refine lv_iload_n hx hb dL_turnDown_6 rfl (lv_at hl 3 rfl) ?_
  refine k_T (vx_runV (As := [.int (nI c), .int (nI c), .int (bI g)]) (rest := [.int (nI 0), .ref (ad 46)]) hF (c_X3_turnDown_Tc l D cI cA ad n x c g hlt hc hn) (cwV 3 hts gL_turnDown_X3_turnDown rfl rfl rfl (by decide +kernel) ⟨(Nat.le_of_ble_eq_true rfl), (Nat.le_of_ble_eq_true rfl)⟩) (k_preT hPc hKc hDc hT (hXF.of rfl (State.WarmedH.refl s) (fun _ _ _ => rfl) oA_c) (k := 0) (by decide) cF_0 rfl) rfl rfl hl.1 rfl (lv_room (Nat.le_of_ble_eq_true rfl)) dL_turnDown_7 ⟨(Nat.le_of_ble_eq_true rfl), (Nat.le_of_ble_eq_true rfl)⟩) (fun _ _ _ h => h) (fun H qx ce hz hk hce hcv hcl => ?_)
  have hP := oP_keep hP hk
  have hS : va_S (wA ad 47) s.heap H [] := ⟨hz, fun q h1 _ => hk q h1, fun _ h => by cases h⟩
  refine vx_catch (own := RL) (name := IAE) hown (tableOf [(0, 12, 15, 13)]) ⟨0, 12, 19, 15⟩ (tableOf [(0, 12, 23, 17)]) (by rw [htab]; rfl) (fun z hz => ?_) rfl (by decide) (hts (.classLink RL 15 IAE) (by decide +kernel)) (castE hXF.2.2 (Or.inr (Or.inl rfl))) hce hcv hcl ?_
  · have hz : z ∈ ([⟨0, 12, 15, 13⟩] : List ExceptionTableEntry) := hz
    rcases List.mem_cons.mp hz with rfl | hz
    · exact Or.inr ⟨by decide, IOOB, hts (.classLink RL 13 IOOB) (by decide +kernel), hC.1⟩
    cases hz
  refine lv_astore (lv' := [(5, .ref qx), (0, .ref (ad 0)), (1, .int (nI c)), (2, .int (nI c)), (3, .int (bI g)), (4, .ref (ad 46))]) hx hb dL_turnDown_19 hl (by decide) rfl (fun ls hl => ?_)
  refine lv_iconst (v := nI 2) hx hb dL_turnDown_21 (by decide) ?_
  exact hret H [] _ _ 22 ls (nI 2) _ hP hS dL_turnDown_22 rfl rfl (Nat.le_of_ble_eq_true rfl) (Nat.le_of_ble_eq_true rfl)
set_option maxHeartbeats 4000000 in
set_option maxRecDepth 100000 in
theorem w_turnDown_Td (l : Launch) (D : va_G) (cI : ClassId) (cA : ClassId) (ad : Nat → Nat) (n : Nat) (x : Nat → Nat → Int32) (c : Nat) (d : Nat) (g : Bool) (cL : ClassId) (o : Nat → Int64) (hlt : l.stackTraces = false) (hc : c < n) (hd : d < n) (hne : c ≠ d) (hn : n ≤ 24) (hsg : sg x c d = 0) : Met l yL_turnDown wsL_turnDown ({ frames := 7, cells := 1, slots := 6, locals := 115 }) (va_Pc [.ref (ad 0), .int (nI c), .int (nI d), .int (bI g), .ref (ad 46)] (wO D cI cA cL ad n x o)) (qO D ad (oF cI cA cL ad n x o) 47 (nI 3)) 1 6 (wA ad 47) := by
  refine c_ofO (cc := cL_turnDown) (maxL := 6) (hh := [(0, 12, 15, 13), (0, 12, 19, 15), (0, 12, 23, 17)]) (by decide) rfl (Nat.le_of_ble_eq_true rfl) ?_
  intro p e s m av below meth cd Q hx hb hF htab hP hK hD hT hXF hC hret ls hl
  have hown : s.vm.findClass RL = some m.cls := hF.2.2.2.1
  have hF : CallFix p m cd cL_turnDown 6 s av wsL_turnDown RL := hF
  have hts := hF.2.2.2.2
  have hl : lv_has ls 6 [(0, .ref (ad 0)), (1, .int (nI c)), (2, .int (nI d)), (3, .int (bI g)), (4, .ref (ad 46))] := hl
  have hPc := oP_c hP
  have hKc := hK.sub (tys' := [(cI, .int), (cA, .array .int)]) [0, 1] rfl
  have hDc := oD_c hD
  refine lv_aload hx hb dL_turnDown_0 (lv_at hl 4 rfl) ?_
  refine lv_iconst (v := nI 0) hx hb dL_turnDown_2 (by decide) ?_
  refine lv_aload_n hx hb dL_turnDown_3 rfl (lv_at hl 0 rfl) ?_
  refine lv_iload_n hx hb dL_turnDown_4 rfl (lv_at hl 1 rfl) ?_
  refine lv_iload_n hx hb dL_turnDown_5 rfl (lv_at hl 2 rfl) ?_
  refine lv_iload_n hx hb dL_turnDown_6 rfl (lv_at hl 3 rfl) ?_
  refine k_T (vx_runV (As := [.int (nI c), .int (nI d), .int (bI g)]) (rest := [.int (nI 0), .ref (ad 46)]) hF (c_X3_turnDown_Td l D cI cA ad n x c d g hlt hc hd hne hn hsg) (cwV 3 hts gL_turnDown_X3_turnDown rfl rfl rfl (by decide +kernel) ⟨(Nat.le_of_ble_eq_true rfl), (Nat.le_of_ble_eq_true rfl)⟩) (k_preT hPc hKc hDc hT (hXF.of rfl (State.WarmedH.refl s) (fun _ _ _ => rfl) oA_c) (k := 0) (by decide) cF_0 rfl) rfl rfl hl.1 rfl (lv_room (Nat.le_of_ble_eq_true rfl)) dL_turnDown_7 ⟨(Nat.le_of_ble_eq_true rfl), (Nat.le_of_ble_eq_true rfl)⟩) (fun _ _ _ h => h) (fun H qx ce hz hk hce hcv hcl => ?_)
  have hP := oP_keep hP hk
  have hS : va_S (wA ad 47) s.heap H [] := ⟨hz, fun q h1 _ => hk q h1, fun _ h => by cases h⟩
  refine vx_catch (own := RL) (name := ISE) hown (tableOf [(0, 12, 15, 13), (0, 12, 19, 15)]) ⟨0, 12, 23, 17⟩ (tableOf []) (by rw [htab]; rfl) (fun z hz => ?_) rfl (by decide) (hts (.classLink RL 17 ISE) (by decide +kernel)) (castE hXF.2.2 (Or.inr (Or.inr rfl))) hce hcv hcl ?_
  · have hz : z ∈ ([⟨0, 12, 15, 13⟩, ⟨0, 12, 19, 15⟩] : List ExceptionTableEntry) := hz
    rcases List.mem_cons.mp hz with rfl | hz
    · exact Or.inr ⟨by decide, IOOB, hts (.classLink RL 13 IOOB) (by decide +kernel), hC.2.1⟩
    rcases List.mem_cons.mp hz with rfl | hz
    · exact Or.inr ⟨by decide, IAE, hts (.classLink RL 15 IAE) (by decide +kernel), hC.2.2⟩
    cases hz
  refine lv_astore (lv' := [(5, .ref qx), (0, .ref (ad 0)), (1, .int (nI c)), (2, .int (nI d)), (3, .int (bI g)), (4, .ref (ad 46))]) hx hb dL_turnDown_23 hl (by decide) rfl (fun ls hl => ?_)
  refine lv_iconst (v := nI 3) hx hb dL_turnDown_25 (by decide) ?_
  exact hret H [] _ _ 26 ls (nI 3) _ hP hS dL_turnDown_26 rfl rfl (Nat.le_of_ble_eq_true rfl) (Nat.le_of_ble_eq_true rfl)
