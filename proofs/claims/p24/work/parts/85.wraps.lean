set_option maxHeartbeats 4000000 in
set_option maxRecDepth 100000 in
theorem w_adds_0 (l : Launch) (D : va_G) (cI : ClassId) (cA : ClassId) (ad : Nat → Nat) (n : Nat) (x : Nat → Nat → Int32) (b : Int32) (w : Int32) (hbk : bookB b = true) (hnm : nameB w = true) (hn : n < 24) : Met l yL_adds wsL_adds ({ frames := 2, cells := 1, slots := 6, locals := 46 }) (va_Pc [.ref (ad 0), .int b, .int w] (wG D cI cA ad (cF cI cA ad n x) 46)) (qO D ad (cF cI cA ad (n + 1) (appE x n b w)) 46 (nI n)) 1 6 (wA ad 46) := by
  refine c_ofO (cc := cL_adds) (maxL := 4) (hh := [(0, 6, 7, 13)]) (by decide) rfl (Nat.le_of_ble_eq_true rfl) ?_
  intro p e s m av below meth cd Q hx hb hF htab hP hK hD hT hXF hC hret ls hl
  have hown : s.vm.findClass RL = some m.cls := hF.2.2.2.1
  have hF : CallFix p m cd cL_adds 4 s av wsL_adds RL := hF
  have hts := hF.2.2.2.2
  have hl : lv_has ls 4 [(0, .ref (ad 0)), (1, .int b), (2, .int w)] := hl
  refine lv_aload_n hx hb dL_adds_0 rfl (lv_at hl 0 rfl) ?_
  refine lv_iload_n hx hb dL_adds_1 rfl (lv_at hl 1 rfl) ?_
  refine lv_iload_n hx hb dL_adds_2 rfl (lv_at hl 2 rfl) ?_
  refine k_Wi (va_runV (As := [.int b, .int w]) (rest := []) hF (c_X3_add l D cI cA ad n x b w hbk hnm hn) (cwV 2 hts gL_adds_X3_add rfl rfl rfl (by decide +kernel) ⟨(Nat.le_of_ble_eq_true rfl), (Nat.le_of_ble_eq_true rfl)⟩) (k_pre hP hK hD hT (k := 0) (by decide) cF_0 rfl) rfl rfl hl.1 rfl (lv_room (Nat.le_of_ble_eq_true rfl)) dL_adds_3 ⟨Nat.zero_le _, Nat.zero_le _⟩) hD (sS.rf (A := wA ad 46)) (fun H locs hP hS => ?_)
  exact hret H locs _ _ 6 ls (nI n) _ hP hS.1 dL_adds_6 rfl rfl (Nat.zero_le _) (Nat.zero_le _)
set_option maxHeartbeats 4000000 in
set_option maxRecDepth 100000 in
theorem w_adds_Tc (l : Launch) (D : va_G) (cI : ClassId) (cA : ClassId) (ad : Nat → Nat) (n : Nat) (x : Nat → Nat → Int32) (b : Int32) (w : Int32) (hlt : l.stackTraces = false) (hbk : bookB b = true) (hnm : nameB w = true) (hn : n = 24) : Met l yL_adds wsL_adds ({ frames := 7, cells := 1, slots := 6, locals := 104 }) (va_Pc [.ref (ad 0), .int b, .int w] (wG D cI cA ad (cF cI cA ad n x) 46)) (qO D ad (cF cI cA ad n x) 46 ((-3))) 1 6 (wA ad 46) := by
  refine c_ofO (cc := cL_adds) (maxL := 4) (hh := [(0, 6, 7, 13)]) (by decide) rfl (Nat.le_of_ble_eq_true rfl) ?_
  intro p e s m av below meth cd Q hx hb hF htab hP hK hD hT hXF hC hret ls hl
  have hown : s.vm.findClass RL = some m.cls := hF.2.2.2.1
  have hF : CallFix p m cd cL_adds 4 s av wsL_adds RL := hF
  have hts := hF.2.2.2.2
  have hl : lv_has ls 4 [(0, .ref (ad 0)), (1, .int b), (2, .int w)] := hl
  refine lv_aload_n hx hb dL_adds_0 rfl (lv_at hl 0 rfl) ?_
  refine lv_iload_n hx hb dL_adds_1 rfl (lv_at hl 1 rfl) ?_
  refine lv_iload_n hx hb dL_adds_2 rfl (lv_at hl 2 rfl) ?_
  refine k_T (vx_runV (As := [.int b, .int w]) (rest := []) hF (c_X3_add_Tc l D cI cA ad n x b w hlt hbk hnm hn) (cwV 2 hts gL_adds_X3_add rfl rfl rfl (by decide +kernel) ⟨(Nat.le_of_ble_eq_true rfl), (Nat.le_of_ble_eq_true rfl)⟩) (k_preT hP hK hD hT hXF (k := 0) (by decide) cF_0 rfl) rfl rfl hl.1 rfl (lv_room (Nat.le_of_ble_eq_true rfl)) dL_adds_3 ⟨(Nat.le_of_ble_eq_true rfl), (Nat.le_of_ble_eq_true rfl)⟩) (fun _ _ _ h => h) (fun H qx ce hz hk hce hcv hcl => ?_)
  have hP := oP_keep hP hk
  have hS : va_S (wA ad 46) s.heap H [] := ⟨hz, fun q h1 _ => hk q h1, fun _ h => by cases h⟩
  refine vx_catch (own := RL) (name := ISE) hown (tableOf []) ⟨0, 6, 7, 13⟩ (tableOf []) (by rw [htab]; rfl) (fun z hz => ?_) rfl (by decide) (hts (.classLink RL 13 ISE) (by decide +kernel)) (castE hXF.2.2 (Or.inr (Or.inr rfl))) hce hcv hcl ?_
  · cases hz
  refine lv_astore_n (lv' := [(3, .ref qx), (0, .ref (ad 0)), (1, .int b), (2, .int w)]) hx hb dL_adds_7 rfl hl (by decide) rfl (fun ls hl => ?_)
  refine lv_bipush (v := (-3)) hx hb dL_adds_8 (by decide) ?_
  exact hret H [] _ _ 10 ls ((-3)) _ hP hS dL_adds_10 rfl rfl (Nat.le_of_ble_eq_true rfl) (Nat.le_of_ble_eq_true rfl)
set_option maxHeartbeats 4000000 in
set_option maxRecDepth 100000 in
theorem w_links_0 (l : Launch) (D : va_G) (cI : ClassId) (cA : ClassId) (ad : Nat → Nat) (n : Nat) (x : Nat → Nat → Int32) (c : Nat) (d : Nat) (hc : c < n) (hd : d < n) (hne : c ≠ d) (hn : n ≤ 24) (hlk : hasB (x 8 c) d = false) : Met l yL_links wsL_links ({ frames := 4, cells := 1, slots := 6, locals := 87 }) (va_Pc [.ref (ad 0), .int (nI c), .int (nI d)] (wG D cI cA ad (cF cI cA ad n x) 46)) (qO D ad (cF cI cA ad n (conX x c d)) 46 (bc (conX x c d 9 c))) 1 6 (wA ad 46) := by
  refine c_ofO (cc := cL_links) (maxL := 4) (hh := [(0, 6, 7, 18), (0, 6, 11, 13)]) (by decide) rfl (Nat.le_of_ble_eq_true rfl) ?_
  intro p e s m av below meth cd Q hx hb hF htab hP hK hD hT hXF hC hret ls hl
  have hown : s.vm.findClass RL = some m.cls := hF.2.2.2.1
  have hF : CallFix p m cd cL_links 4 s av wsL_links RL := hF
  have hts := hF.2.2.2.2
  have hl : lv_has ls 4 [(0, .ref (ad 0)), (1, .int (nI c)), (2, .int (nI d))] := hl
  refine lv_aload_n hx hb dL_links_0 rfl (lv_at hl 0 rfl) ?_
  refine lv_iload_n hx hb dL_links_1 rfl (lv_at hl 1 rfl) ?_
  refine lv_iload_n hx hb dL_links_2 rfl (lv_at hl 2 rfl) ?_
  refine k_Wi (va_runV (As := [.int (nI c), .int (nI d)]) (rest := []) hF (c_X3_link l D cI cA ad n x c d hc hd hne hn hlk) (cwV 2 hts gL_links_X3_link rfl rfl rfl (by decide +kernel) ⟨(Nat.le_of_ble_eq_true rfl), (Nat.le_of_ble_eq_true rfl)⟩) (k_pre hP hK hD hT (k := 0) (by decide) cF_0 rfl) rfl rfl hl.1 rfl (lv_room (Nat.le_of_ble_eq_true rfl)) dL_links_3 ⟨Nat.zero_le _, Nat.zero_le _⟩) hD (sS.rf (A := wA ad 46)) (fun H locs hP hS => ?_)
  exact hret H locs _ _ 6 ls (bc (conX x c d 9 c)) _ hP hS.1 dL_links_6 rfl rfl (Nat.zero_le _) (Nat.zero_le _)
set_option maxHeartbeats 4000000 in
set_option maxRecDepth 100000 in
theorem w_links_Tc (l : Launch) (D : va_G) (cI : ClassId) (cA : ClassId) (ad : Nat → Nat) (n : Nat) (x : Nat → Nat → Int32) (c : Nat) (hlt : l.stackTraces = false) (hc : c < n) (hn : n ≤ 24) : Met l yL_links wsL_links ({ frames := 9, cells := 1, slots := 6, locals := 146 }) (va_Pc [.ref (ad 0), .int (nI c), .int (nI c)] (wG D cI cA ad (cF cI cA ad n x) 46)) (qO D ad (cF cI cA ad n x) 46 ((-2))) 1 6 (wA ad 46) := by
  refine c_ofO (cc := cL_links) (maxL := 4) (hh := [(0, 6, 7, 18), (0, 6, 11, 13)]) (by decide) rfl (Nat.le_of_ble_eq_true rfl) ?_
  intro p e s m av below meth cd Q hx hb hF htab hP hK hD hT hXF hC hret ls hl
  have hown : s.vm.findClass RL = some m.cls := hF.2.2.2.1
  have hF : CallFix p m cd cL_links 4 s av wsL_links RL := hF
  have hts := hF.2.2.2.2
  have hl : lv_has ls 4 [(0, .ref (ad 0)), (1, .int (nI c)), (2, .int (nI c))] := hl
  refine lv_aload_n hx hb dL_links_0 rfl (lv_at hl 0 rfl) ?_
  refine lv_iload_n hx hb dL_links_1 rfl (lv_at hl 1 rfl) ?_
  refine lv_iload_n hx hb dL_links_2 rfl (lv_at hl 2 rfl) ?_
  refine k_T (vx_runV (As := [.int (nI c), .int (nI c)]) (rest := []) hF (c_X3_link_Tc l D cI cA ad n x c hlt hc hn) (cwV 2 hts gL_links_X3_link rfl rfl rfl (by decide +kernel) ⟨(Nat.le_of_ble_eq_true rfl), (Nat.le_of_ble_eq_true rfl)⟩) (k_preT hP hK hD hT hXF (k := 0) (by decide) cF_0 rfl) rfl rfl hl.1 rfl (lv_room (Nat.le_of_ble_eq_true rfl)) dL_links_3 ⟨(Nat.le_of_ble_eq_true rfl), (Nat.le_of_ble_eq_true rfl)⟩) (fun _ _ _ h => h) (fun H qx ce hz hk hce hcv hcl => ?_)
  have hP := oP_keep hP hk
  have hS : va_S (wA ad 46) s.heap H [] := ⟨hz, fun q h1 _ => hk q h1, fun _ h => by cases h⟩
  refine vx_catch (own := RL) (name := IAE) hown (tableOf []) ⟨0, 6, 7, 18⟩ (tableOf [(0, 6, 11, 13)]) (by rw [htab]; rfl) (fun z hz => ?_) rfl (by decide) (hts (.classLink RL 18 IAE) (by decide +kernel)) (castE hXF.2.2 (Or.inr (Or.inl rfl))) hce hcv hcl ?_
  · cases hz
  refine lv_astore_n (lv' := [(3, .ref qx), (0, .ref (ad 0)), (1, .int (nI c)), (2, .int (nI c))]) hx hb dL_links_7 rfl hl (by decide) rfl (fun ls hl => ?_)
  refine lv_bipush (v := (-2)) hx hb dL_links_8 (by decide) ?_
  exact hret H [] _ _ 10 ls ((-2)) _ hP hS dL_links_10 rfl rfl (Nat.le_of_ble_eq_true rfl) (Nat.le_of_ble_eq_true rfl)
set_option maxHeartbeats 4000000 in
set_option maxRecDepth 100000 in
theorem w_links_Td (l : Launch) (D : va_G) (cI : ClassId) (cA : ClassId) (ad : Nat → Nat) (n : Nat) (x : Nat → Nat → Int32) (c : Nat) (d : Nat) (hlt : l.stackTraces = false) (hc : c < n) (hd : d < n) (hne : c ≠ d) (hn : n ≤ 24) (hlk : hasB (x 8 c) d = true) : Met l yL_links wsL_links ({ frames := 7, cells := 1, slots := 6, locals := 104 }) (va_Pc [.ref (ad 0), .int (nI c), .int (nI d)] (wG D cI cA ad (cF cI cA ad n x) 46)) (qO D ad (cF cI cA ad n x) 46 ((-3))) 1 6 (wA ad 46) := by
  refine c_ofO (cc := cL_links) (maxL := 4) (hh := [(0, 6, 7, 18), (0, 6, 11, 13)]) (by decide) rfl (Nat.le_of_ble_eq_true rfl) ?_
  intro p e s m av below meth cd Q hx hb hF htab hP hK hD hT hXF hC hret ls hl
  have hown : s.vm.findClass RL = some m.cls := hF.2.2.2.1
  have hF : CallFix p m cd cL_links 4 s av wsL_links RL := hF
  have hts := hF.2.2.2.2
  have hl : lv_has ls 4 [(0, .ref (ad 0)), (1, .int (nI c)), (2, .int (nI d))] := hl
  refine lv_aload_n hx hb dL_links_0 rfl (lv_at hl 0 rfl) ?_
  refine lv_iload_n hx hb dL_links_1 rfl (lv_at hl 1 rfl) ?_
  refine lv_iload_n hx hb dL_links_2 rfl (lv_at hl 2 rfl) ?_
  refine k_T (vx_runV (As := [.int (nI c), .int (nI d)]) (rest := []) hF (c_X3_link_Td l D cI cA ad n x c d hlt hc hd hne hn hlk) (cwV 2 hts gL_links_X3_link rfl rfl rfl (by decide +kernel) ⟨(Nat.le_of_ble_eq_true rfl), (Nat.le_of_ble_eq_true rfl)⟩) (k_preT hP hK hD hT hXF (k := 0) (by decide) cF_0 rfl) rfl rfl hl.1 rfl (lv_room (Nat.le_of_ble_eq_true rfl)) dL_links_3 ⟨(Nat.le_of_ble_eq_true rfl), (Nat.le_of_ble_eq_true rfl)⟩) (fun _ _ _ h => h) (fun H qx ce hz hk hce hcv hcl => ?_)
  have hP := oP_keep hP hk
  have hS : va_S (wA ad 46) s.heap H [] := ⟨hz, fun q h1 _ => hk q h1, fun _ h => by cases h⟩
  refine vx_catch (own := RL) (name := ISE) hown (tableOf [(0, 6, 7, 18)]) ⟨0, 6, 11, 13⟩ (tableOf []) (by rw [htab]; rfl) (fun z hz => ?_) rfl (by decide) (hts (.classLink RL 13 ISE) (by decide +kernel)) (castE hXF.2.2 (Or.inr (Or.inr rfl))) hce hcv hcl ?_
  · have hz : z ∈ ([⟨0, 6, 7, 18⟩] : List ExceptionTableEntry) := hz
    rcases List.mem_cons.mp hz with rfl | hz
    · exact Or.inr ⟨by decide, IAE, hts (.classLink RL 18 IAE) (by decide +kernel), hC.2.2⟩
    cases hz
  refine lv_astore_n (lv' := [(3, .ref qx), (0, .ref (ad 0)), (1, .int (nI c)), (2, .int (nI d))]) hx hb dL_links_11 rfl hl (by decide) rfl (fun ls hl => ?_)
  refine lv_bipush (v := (-3)) hx hb dL_links_12 (by decide) ?_
  exact hret H [] _ _ 14 ls ((-3)) _ hP hS dL_links_14 rfl rfl (Nat.le_of_ble_eq_true rfl) (Nat.le_of_ble_eq_true rfl)
set_option maxHeartbeats 4000000 in
set_option maxRecDepth 100000 in
theorem w_cuts_0 (l : Launch) (D : va_G) (cI : ClassId) (cA : ClassId) (ad : Nat → Nat) (n : Nat) (x : Nat → Nat → Int32) (c : Nat) (d : Nat) (hc : c < n) (hd : d < n) (hn : n ≤ 24) (hlk : hasB (x 8 c) d = true) : Met l yL_cuts wsL_cuts ({ frames := 5, cells := 1, slots := 6, locals := 111 }) (va_Pc [.ref (ad 0), .int (nI c), .int (nI d)] (wG D cI cA ad (cF cI cA ad n x) 46)) (qO D ad (cF cI cA ad n (disX x c d)) 46 (bI (hasB (disX x c d 9 c) d))) 1 6 (wA ad 46) := by
  refine c_ofO (cc := cL_cuts) (maxL := 4) (hh := [(0, 14, 15, 13)]) (by decide) rfl (Nat.le_of_ble_eq_true rfl) ?_
  intro p e s m av below meth cd Q hx hb hF htab hP hK hD hT hXF hC hret ls hl
  have hown : s.vm.findClass RL = some m.cls := hF.2.2.2.1
  have hF : CallFix p m cd cL_cuts 4 s av wsL_cuts RL := hF
  have hts := hF.2.2.2.2
  have hl : lv_has ls 4 [(0, .ref (ad 0)), (1, .int (nI c)), (2, .int (nI d))] := hl
  refine lv_aload_n hx hb dL_cuts_0 rfl (lv_at hl 0 rfl) ?_
  refine lv_iload_n hx hb dL_cuts_1 rfl (lv_at hl 1 rfl) ?_
  refine lv_iload_n hx hb dL_cuts_2 rfl (lv_at hl 2 rfl) ?_
  refine k_Wi (va_runV (As := [.int (nI c), .int (nI d)]) (rest := []) hF (c_X3_cut l D cI cA ad n x c d hc hd hn hlk) (cwV 2 hts gL_cuts_X3_cut rfl rfl rfl (by decide +kernel) ⟨(Nat.le_of_ble_eq_true rfl), (Nat.le_of_ble_eq_true rfl)⟩) (k_pre hP hK hD hT (k := 0) (by decide) cF_0 rfl) rfl rfl hl.1 rfl (lv_room (Nat.le_of_ble_eq_true rfl)) dL_cuts_3 ⟨Nat.zero_le _, Nat.zero_le _⟩) hD (sS.rf (A := wA ad 46)) (fun H locs hP hS => ?_)
  refine r_ifeqB (tgt := 13) hx hb dL_cuts_6 (by decide) (fun hv => ?_) (fun hv => ?_)
  · refine lv_iconst (v := nI 0) hx hb dL_cuts_13 (by decide) ?_
    exact hret H locs _ _ 14 ls (nI 0) _ hP hS.1 dL_cuts_14 (by rw [hv]; rfl) rfl (Nat.zero_le _) (Nat.zero_le _)
  · refine lv_iconst (v := nI 1) hx hb dL_cuts_9 (by decide) ?_
    refine lv_goto (tgt := 14) hx hb dL_cuts_10 (by decide) ?_
    exact hret H locs _ _ 14 ls (nI 1) _ hP hS.1 dL_cuts_14 (by rw [hv]; rfl) rfl (Nat.zero_le _) (Nat.zero_le _)
set_option maxHeartbeats 4000000 in
set_option maxRecDepth 100000 in
theorem w_cuts_Tc (l : Launch) (D : va_G) (cI : ClassId) (cA : ClassId) (ad : Nat → Nat) (n : Nat) (x : Nat → Nat → Int32) (c : Nat) (d : Nat) (hlt : l.stackTraces = false) (hc : c < n) (hd : d < n) (hn : n ≤ 24) (hlk : hasB (x 8 c) d = false) : Met l yL_cuts wsL_cuts ({ frames := 7, cells := 1, slots := 6, locals := 104 }) (va_Pc [.ref (ad 0), .int (nI c), .int (nI d)] (wG D cI cA ad (cF cI cA ad n x) 46)) (qO D ad (cF cI cA ad n x) 46 ((-3))) 1 6 (wA ad 46) := by
  refine c_ofO (cc := cL_cuts) (maxL := 4) (hh := [(0, 14, 15, 13)]) (by decide) rfl (Nat.le_of_ble_eq_true rfl) ?_
  intro p e s m av below meth cd Q hx hb hF htab hP hK hD hT hXF hC hret ls hl
  have hown : s.vm.findClass RL = some m.cls := hF.2.2.2.1
  have hF : CallFix p m cd cL_cuts 4 s av wsL_cuts RL := hF
  have hts := hF.2.2.2.2
  have hl : lv_has ls 4 [(0, .ref (ad 0)), (1, .int (nI c)), (2, .int (nI d))] := hl
  refine lv_aload_n hx hb dL_cuts_0 rfl (lv_at hl 0 rfl) ?_
  refine lv_iload_n hx hb dL_cuts_1 rfl (lv_at hl 1 rfl) ?_
  refine lv_iload_n hx hb dL_cuts_2 rfl (lv_at hl 2 rfl) ?_
  refine k_T (vx_runV (As := [.int (nI c), .int (nI d)]) (rest := []) hF (c_X3_cut_Tc l D cI cA ad n x c d hlt hc hd hn hlk) (cwV 2 hts gL_cuts_X3_cut rfl rfl rfl (by decide +kernel) ⟨(Nat.le_of_ble_eq_true rfl), (Nat.le_of_ble_eq_true rfl)⟩) (k_preT hP hK hD hT hXF (k := 0) (by decide) cF_0 rfl) rfl rfl hl.1 rfl (lv_room (Nat.le_of_ble_eq_true rfl)) dL_cuts_3 ⟨(Nat.le_of_ble_eq_true rfl), (Nat.le_of_ble_eq_true rfl)⟩) (fun _ _ _ h => h) (fun H qx ce hz hk hce hcv hcl => ?_)
  have hP := oP_keep hP hk
  have hS : va_S (wA ad 46) s.heap H [] := ⟨hz, fun q h1 _ => hk q h1, fun _ h => by cases h⟩
  refine vx_catch (own := RL) (name := ISE) hown (tableOf []) ⟨0, 14, 15, 13⟩ (tableOf []) (by rw [htab]; rfl) (fun z hz => ?_) rfl (by decide) (hts (.classLink RL 13 ISE) (by decide +kernel)) (castE hXF.2.2 (Or.inr (Or.inr rfl))) hce hcv hcl ?_
  · cases hz
  refine lv_astore_n (lv' := [(3, .ref qx), (0, .ref (ad 0)), (1, .int (nI c)), (2, .int (nI d))]) hx hb dL_cuts_15 rfl hl (by decide) rfl (fun ls hl => ?_)
  refine lv_bipush (v := (-3)) hx hb dL_cuts_16 (by decide) ?_
  exact hret H [] _ _ 18 ls ((-3)) _ hP hS dL_cuts_18 rfl rfl (Nat.le_of_ble_eq_true rfl) (Nat.le_of_ble_eq_true rfl)
set_option maxHeartbeats 4000000 in
set_option maxRecDepth 100000 in
theorem w_downs_g (l : Launch) (D : va_G) (cI : ClassId) (cA : ClassId) (ad : Nat → Nat) (n : Nat) (x : Nat → Nat → Int32) (c : Nat) (d : Nat) (hc : c < n) (hd : d < n) (hne : c ≠ d) (hn : n ≤ 24) (hsg : ¬ sg x c d = 0) : Met l yL_downs wsL_downs ({ frames := 6, cells := 1, slots := 6, locals := 139 }) (va_Pc [.ref (ad 0), .int (nI c), .int (nI d), .int (bI true)] (wG D cI cA ad (cF cI cA ad n x) 46)) (qO D ad (cF cI cA ad n (tlS (rfgX x c d) n)) 46 (tlC (rfgX x c d) n)) 1 6 (wA ad 46) := by
  refine c_ofO (cc := cL_downs) (maxL := 5) (hh := [(0, 7, 8, 18), (0, 7, 13, 13)]) (by decide) rfl (Nat.le_of_ble_eq_true rfl) ?_
  intro p e s m av below meth cd Q hx hb hF htab hP hK hD hT hXF hC hret ls hl
  have hown : s.vm.findClass RL = some m.cls := hF.2.2.2.1
  have hF : CallFix p m cd cL_downs 5 s av wsL_downs RL := hF
  have hts := hF.2.2.2.2
  have hl : lv_has ls 5 [(0, .ref (ad 0)), (1, .int (nI c)), (2, .int (nI d)), (3, .int (bI true))] := hl
  refine lv_aload_n hx hb dL_downs_0 rfl (lv_at hl 0 rfl) ?_
  refine lv_iload_n hx hb dL_downs_1 rfl (lv_at hl 1 rfl) ?_
  refine lv_iload_n hx hb dL_downs_2 rfl (lv_at hl 2 rfl) ?_
  refine lv_iload_n hx hb dL_downs_3 rfl (lv_at hl 3 rfl) ?_
  refine k_Wi (va_runV (As := [.int (nI c), .int (nI d), .int (bI true)]) (rest := []) hF (c_X3_turnDown_g l D cI cA ad n x c d hc hd hne hn hsg) (cwV 3 hts gL_downs_X3_turnDown rfl rfl rfl (by decide +kernel) ⟨(Nat.le_of_ble_eq_true rfl), (Nat.le_of_ble_eq_true rfl)⟩) (k_pre hP hK hD hT (k := 0) (by decide) cF_0 rfl) rfl rfl hl.1 rfl (lv_room (Nat.le_of_ble_eq_true rfl)) dL_downs_4 ⟨Nat.zero_le _, Nat.zero_le _⟩) hD (sS.rf (A := wA ad 46)) (fun H locs hP hS => ?_)
  exact hret H locs _ _ 7 ls (tlC (rfgX x c d) n) _ hP hS.1 dL_downs_7 rfl rfl (Nat.zero_le _) (Nat.zero_le _)
set_option maxHeartbeats 4000000 in
set_option maxRecDepth 100000 in
theorem w_downs_n (l : Launch) (D : va_G) (cI : ClassId) (cA : ClassId) (ad : Nat → Nat) (n : Nat) (x : Nat → Nat → Int32) (c : Nat) (d : Nat) (hc : c < n) (hd : d < n) (hne : c ≠ d) (hn : n ≤ 24) (hsg : ¬ sg x c d = 0) : Met l yL_downs wsL_downs ({ frames := 6, cells := 1, slots := 6, locals := 139 }) (va_Pc [.ref (ad 0), .int (nI c), .int (nI d), .int (bI false)] (wG D cI cA ad (cF cI cA ad n x) 46)) (qO D ad (cF cI cA ad n (tlS (rfnX x c d (mcOf x c d)) n)) 46 (tlC (rfnX x c d (mcOf x c d)) n)) 1 6 (wA ad 46) := by
  refine c_ofO (cc := cL_downs) (maxL := 5) (hh := [(0, 7, 8, 18), (0, 7, 13, 13)]) (by decide) rfl (Nat.le_of_ble_eq_true rfl) ?_
  intro p e s m av below meth cd Q hx hb hF htab hP hK hD hT hXF hC hret ls hl
  have hown : s.vm.findClass RL = some m.cls := hF.2.2.2.1
  have hF : CallFix p m cd cL_downs 5 s av wsL_downs RL := hF
  have hts := hF.2.2.2.2
  have hl : lv_has ls 5 [(0, .ref (ad 0)), (1, .int (nI c)), (2, .int (nI d)), (3, .int (bI false))] := hl
  refine lv_aload_n hx hb dL_downs_0 rfl (lv_at hl 0 rfl) ?_
  refine lv_iload_n hx hb dL_downs_1 rfl (lv_at hl 1 rfl) ?_
  refine lv_iload_n hx hb dL_downs_2 rfl (lv_at hl 2 rfl) ?_
  refine lv_iload_n hx hb dL_downs_3 rfl (lv_at hl 3 rfl) ?_
  refine k_Wi (va_runV (As := [.int (nI c), .int (nI d), .int (bI false)]) (rest := []) hF (c_X3_turnDown_n l D cI cA ad n x c d hc hd hne hn hsg) (cwV 3 hts gL_downs_X3_turnDown rfl rfl rfl (by decide +kernel) ⟨(Nat.le_of_ble_eq_true rfl), (Nat.le_of_ble_eq_true rfl)⟩) (k_pre hP hK hD hT (k := 0) (by decide) cF_0 rfl) rfl rfl hl.1 rfl (lv_room (Nat.le_of_ble_eq_true rfl)) dL_downs_4 ⟨Nat.zero_le _, Nat.zero_le _⟩) hD (sS.rf (A := wA ad 46)) (fun H locs hP hS => ?_)
  exact hret H locs _ _ 7 ls (tlC (rfnX x c d (mcOf x c d)) n) _ hP hS.1 dL_downs_7 rfl rfl (Nat.zero_le _) (Nat.zero_le _)
set_option maxHeartbeats 4000000 in
set_option maxRecDepth 100000 in
theorem w_downs_Tc (l : Launch) (D : va_G) (cI : ClassId) (cA : ClassId) (ad : Nat → Nat) (n : Nat) (x : Nat → Nat → Int32) (c : Nat) (g : Bool) (hlt : l.stackTraces = false) (hc : c < n) (hn : n ≤ 24) : Met l yL_downs wsL_downs ({ frames := 9, cells := 1, slots := 6, locals := 147 }) (va_Pc [.ref (ad 0), .int (nI c), .int (nI c), .int (bI g)] (wG D cI cA ad (cF cI cA ad n x) 46)) (qO D ad (cF cI cA ad n x) 46 ((-2))) 1 6 (wA ad 46) := by
  refine c_ofO (cc := cL_downs) (maxL := 5) (hh := [(0, 7, 8, 18), (0, 7, 13, 13)]) (by decide) rfl (Nat.le_of_ble_eq_true rfl) ?_
  intro p e s m av below meth cd Q hx hb hF htab hP hK hD hT hXF hC hret ls hl
  have hown : s.vm.findClass RL = some m.cls := hF.2.2.2.1
  have hF : CallFix p m cd cL_downs 5 s av wsL_downs RL := hF
  have hts := hF.2.2.2.2
  have hl : lv_has ls 5 [(0, .ref (ad 0)), (1, .int (nI c)), (2, .int (nI c)), (3, .int (bI g))] := hl
  refine lv_aload_n hx hb dL_downs_0 rfl (lv_at hl 0 rfl) ?_
  refine lv_iload_n hx hb dL_downs_1 rfl (lv_at hl 1 rfl) ?_
  refine lv_iload_n hx hb dL_downs_2 rfl (lv_at hl 2 rfl) ?_
  refine lv_iload_n hx hb dL_downs_3 rfl (lv_at hl 3 rfl) ?_
  refine k_T (vx_runV (As := [.int (nI c), .int (nI c), .int (bI g)]) (rest := []) hF (c_X3_turnDown_Tc l D cI cA ad n x c g hlt hc hn) (cwV 3 hts gL_downs_X3_turnDown rfl rfl rfl (by decide +kernel) ⟨(Nat.le_of_ble_eq_true rfl), (Nat.le_of_ble_eq_true rfl)⟩) (k_preT hP hK hD hT hXF (k := 0) (by decide) cF_0 rfl) rfl rfl hl.1 rfl (lv_room (Nat.le_of_ble_eq_true rfl)) dL_downs_4 ⟨(Nat.le_of_ble_eq_true rfl), (Nat.le_of_ble_eq_true rfl)⟩) (fun _ _ _ h => h) (fun H qx ce hz hk hce hcv hcl => ?_)
  have hP := oP_keep hP hk
  have hS : va_S (wA ad 46) s.heap H [] := ⟨hz, fun q h1 _ => hk q h1, fun _ h => by cases h⟩
  refine vx_catch (own := RL) (name := IAE) hown (tableOf []) ⟨0, 7, 8, 18⟩ (tableOf [(0, 7, 13, 13)]) (by rw [htab]; rfl) (fun z hz => ?_) rfl (by decide) (hts (.classLink RL 18 IAE) (by decide +kernel)) (castE hXF.2.2 (Or.inr (Or.inl rfl))) hce hcv hcl ?_
  · cases hz
  refine lv_astore (lv' := [(4, .ref qx), (0, .ref (ad 0)), (1, .int (nI c)), (2, .int (nI c)), (3, .int (bI g))]) hx hb dL_downs_8 hl (by decide) rfl (fun ls hl => ?_)
  refine lv_bipush (v := (-2)) hx hb dL_downs_10 (by decide) ?_
  exact hret H [] _ _ 12 ls ((-2)) _ hP hS dL_downs_12 rfl rfl (Nat.le_of_ble_eq_true rfl) (Nat.le_of_ble_eq_true rfl)
set_option maxHeartbeats 4000000 in
set_option maxRecDepth 100000 in
theorem w_downs_Td (l : Launch) (D : va_G) (cI : ClassId) (cA : ClassId) (ad : Nat → Nat) (n : Nat) (x : Nat → Nat → Int32) (c : Nat) (d : Nat) (g : Bool) (hlt : l.stackTraces = false) (hc : c < n) (hd : d < n) (hne : c ≠ d) (hn : n ≤ 24) (hsg : sg x c d = 0) : Met l yL_downs wsL_downs ({ frames := 7, cells := 1, slots := 6, locals := 115 }) (va_Pc [.ref (ad 0), .int (nI c), .int (nI d), .int (bI g)] (wG D cI cA ad (cF cI cA ad n x) 46)) (qO D ad (cF cI cA ad n x) 46 ((-3))) 1 6 (wA ad 46) := by
  refine c_ofO (cc := cL_downs) (maxL := 5) (hh := [(0, 7, 8, 18), (0, 7, 13, 13)]) (by decide) rfl (Nat.le_of_ble_eq_true rfl) ?_
  intro p e s m av below meth cd Q hx hb hF htab hP hK hD hT hXF hC hret ls hl
  have hown : s.vm.findClass RL = some m.cls := hF.2.2.2.1
  have hF : CallFix p m cd cL_downs 5 s av wsL_downs RL := hF
  have hts := hF.2.2.2.2
  have hl : lv_has ls 5 [(0, .ref (ad 0)), (1, .int (nI c)), (2, .int (nI d)), (3, .int (bI g))] := hl
  refine lv_aload_n hx hb dL_downs_0 rfl (lv_at hl 0 rfl) ?_
  refine lv_iload_n hx hb dL_downs_1 rfl (lv_at hl 1 rfl) ?_
  refine lv_iload_n hx hb dL_downs_2 rfl (lv_at hl 2 rfl) ?_
  refine lv_iload_n hx hb dL_downs_3 rfl (lv_at hl 3 rfl) ?_
  refine k_T (vx_runV (As := [.int (nI c), .int (nI d), .int (bI g)]) (rest := []) hF (c_X3_turnDown_Td l D cI cA ad n x c d g hlt hc hd hne hn hsg) (cwV 3 hts gL_downs_X3_turnDown rfl rfl rfl (by decide +kernel) ⟨(Nat.le_of_ble_eq_true rfl), (Nat.le_of_ble_eq_true rfl)⟩) (k_preT hP hK hD hT hXF (k := 0) (by decide) cF_0 rfl) rfl rfl hl.1 rfl (lv_room (Nat.le_of_ble_eq_true rfl)) dL_downs_4 ⟨(Nat.le_of_ble_eq_true rfl), (Nat.le_of_ble_eq_true rfl)⟩) (fun _ _ _ h => h) (fun H qx ce hz hk hce hcv hcl => ?_)
  have hP := oP_keep hP hk
  have hS : va_S (wA ad 46) s.heap H [] := ⟨hz, fun q h1 _ => hk q h1, fun _ h => by cases h⟩
  refine vx_catch (own := RL) (name := ISE) hown (tableOf [(0, 7, 8, 18)]) ⟨0, 7, 13, 13⟩ (tableOf []) (by rw [htab]; rfl) (fun z hz => ?_) rfl (by decide) (hts (.classLink RL 13 ISE) (by decide +kernel)) (castE hXF.2.2 (Or.inr (Or.inr rfl))) hce hcv hcl ?_
  · have hz : z ∈ ([⟨0, 7, 8, 18⟩] : List ExceptionTableEntry) := hz
    rcases List.mem_cons.mp hz with rfl | hz
    · exact Or.inr ⟨by decide, IAE, hts (.classLink RL 18 IAE) (by decide +kernel), hC.2.2⟩
    cases hz
  refine lv_astore (lv' := [(4, .ref qx), (0, .ref (ad 0)), (1, .int (nI c)), (2, .int (nI d)), (3, .int (bI g))]) hx hb dL_downs_13 hl (by decide) rfl (fun ls hl => ?_)
  refine lv_bipush (v := (-3)) hx hb dL_downs_15 (by decide) ?_
  exact hret H [] _ _ 17 ls ((-3)) _ hP hS dL_downs_17 rfl rfl (Nat.le_of_ble_eq_true rfl) (Nat.le_of_ble_eq_true rfl)
set_option maxHeartbeats 4000000 in
set_option maxRecDepth 100000 in
theorem w_pair_Ta (l : Launch) (D : va_G) (cI : ClassId) (cA : ClassId) (ad : Nat → Nat) (n : Nat) (x : Nat → Nat → Int32) (q : Int32) (hlt : l.stackTraces = false) (hn : n ≤ 24) (hqt : ¬ (¬ q < 0 ∧ q < tlC x n)) : Met l yL_pair wsL_pair ({ frames := 7, cells := 1, slots := 6, locals := 140 }) (va_Pc [.ref (ad 0), .int q] (wG D cI cA ad (cF cI cA ad n x) 46)) (qO D ad (cF cI cA ad n (tlS x n)) 46 ((-1))) 1 6 (wA ad 46) := by
  refine c_ofO (cc := cL_pair) (maxL := 3) (hh := [(0, 5, 6, 32)]) (by decide) rfl (Nat.le_of_ble_eq_true rfl) ?_
  intro p e s m av below meth cd Q hx hb hF htab hP hK hD hT hXF hC hret ls hl
  have hown : s.vm.findClass RL = some m.cls := hF.2.2.2.1
  have hF : CallFix p m cd cL_pair 3 s av wsL_pair RL := hF
  have hts := hF.2.2.2.2
  have hl : lv_has ls 3 [(0, .ref (ad 0)), (1, .int q)] := hl
  refine lv_aload_n hx hb dL_pair_0 rfl (lv_at hl 0 rfl) ?_
  refine lv_iload_n hx hb dL_pair_1 rfl (lv_at hl 1 rfl) ?_
  refine k_TE (vx_runV (As := [.int q]) (rest := []) hF (c_X3_pairAt_Ta l D cI cA ad n x q hlt hn hqt) (cwV 1 hts gL_pair_X3_pairAt rfl rfl rfl (by decide +kernel) ⟨(Nat.le_of_ble_eq_true rfl), (Nat.le_of_ble_eq_true rfl)⟩) (k_preT hP hK hD hT hXF (k := 0) (by decide) cF_0 rfl) rfl rfl hl.1 rfl (lv_room (Nat.le_of_ble_eq_true rfl)) dL_pair_2 ⟨(Nat.le_of_ble_eq_true rfl), (Nat.le_of_ble_eq_true rfl)⟩) (fun _ _ _ h => h) (fun H L qx ce hP hz hk hL hce hcv hcl => ?_)
  have hS : va_S (wA ad 46) s.heap H ([] ++ L) := ⟨hz, fun q h1 h2 => hk q h1 h2, fun z h => hL z (by simpa using h)⟩
  refine vx_catch (own := RL) (name := IOOB) hown (tableOf []) ⟨0, 5, 6, 32⟩ (tableOf []) (by rw [htab]; rfl) (fun z hz => ?_) rfl (by decide) (hts (.classLink RL 32 IOOB) (by decide +kernel)) (castE hXF.2.2 (Or.inl rfl)) hce hcv hcl ?_
  · cases hz
  refine lv_astore_n (lv' := [(2, .ref qx), (0, .ref (ad 0)), (1, .int q)]) hx hb dL_pair_6 rfl hl (by decide) rfl (fun ls hl => ?_)
  refine lv_iconst (v := (-1)) hx hb dL_pair_7 (by decide) ?_
  exact hret H ([] ++ L) _ _ 8 ls ((-1)) _ hP hS dL_pair_8 rfl rfl (Nat.le_of_ble_eq_true rfl) (Nat.le_of_ble_eq_true rfl)
