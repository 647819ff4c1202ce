set_option maxHeartbeats 4000000 in
set_option maxRecDepth 100000 in
theorem c_X3_takeOutOfMine (l : Launch) (D : va_G) (cI : ClassId) (cA : ClassId) (ad : Nat → Nat) (n : Nat) (x : Nat → Nat → Int32) (k : Nat) (v : Nat) (g : Int32) (hk : k < 2) (hn : n ≤ 24) : Met l yX3_takeOutOfMine wsX3_takeOutOfMine ({ frames := 2, cells := 0, slots := 0, locals := 47 }) (va_Pc [.ref (ad 0), .int g, .int (nI k), .int (nI v)] (cX D cI cA ad n x)) (qW D ad (cF cI cA ad n (tkS x g k v n)) 46 (some (.int (tkC x g k v n)))) 0 0 (wA ad 46) := by
  refine c_ofW (cc := cX3_takeOutOfMine) (maxL := 7) (ret := .int) (by decide) rfl rfl (Nat.le_of_ble_eq_true rfl) ?_
  intro p e s m av below meth cd Q hx hb hF hP hK hD hT hret ls hl
  have hown : s.vm.findClass RX3 = some m.cls := hF.2.2.2.1
  have hF : CallFix p m cd cX3_takeOutOfMine 7 s av wsX3_takeOutOfMine RX3 := hF
  have hts := hF.2.2.2.2
  have hl : lv_has ls 7 [(0, .ref (ad 0)), (1, .int g), (2, .int (nI k)), (3, .int (nI v))] := hl
  obtain ⟨H, eH⟩ : ∃ H9 : Heap, H9 = s.heap := ⟨_, rfl⟩
  obtain ⟨locs, eL⟩ : ∃ L9 : List Loc, L9 = [] := ⟨_, rfl⟩
  have hS : sS (wA ad 46) s.heap H locs := by rw [eH, eL]; exact sS.rf
  rw [← eH] at hP
  suffices hgo : W p l e ({ frames := 2, cells := 0, slots := 0, locals := 47 }) s m av below meth cd H locs 0 0 Q (F0 m 0 ls []) by rw [eH, eL] at hgo; exact hgo
  clear eH eL
  refine lv_iconst (v := nI 0) hx hb dX3_takeOutOfMine_0 (by decide) ?_
  refine lv_istore (lv' := [(4, .int (nI 0)), (0, .ref (ad 0)), (1, .int g), (2, .int (nI k)), (3, .int (nI v))]) hx hb dX3_takeOutOfMine_1 hl (by decide) rfl (fun ls hl => ?_)
  refine lv_iconst (v := nI 0) hx hb dX3_takeOutOfMine_3 (by decide) ?_
  refine lv_istore (lv' := [(5, .int (nI 0)), (4, .int (nI 0)), (0, .ref (ad 0)), (1, .int g), (2, .int (nI k)), (3, .int (nI v))]) hx hb dX3_takeOutOfMine_4 hl (by decide) rfl (fun ls hl => ?_)
  have hL6 : ∀ i : Nat, i ≤ n → ∀ (H : Heap) (locs : List Loc), va_P D vwCl (wl ad (cF cI cA ad n (tkS x g k v i)) 46) H → sS (wA ad 46) s.heap H locs → ∀ ls : Array Slot, lv_has ls 7 [(0, .ref (ad 0)), (1, .int g), (2, .int (nI k)), (3, .int (nI v)), (4, .int (tkC x g k v i)), (5, .int (nI i))] → W p l e ({ frames := 2, cells := 0, slots := 0, locals := 47 }) s m av below meth cd H locs 0 0 Q (F0 m 6 ls []) := by
    refine down (n) ?_ ?_
    · intro H locs hP hS ls hl
      refine lv_iload hx hb dX3_takeOutOfMine_6 (lv_at hl 5 rfl) ?_
      refine lv_aload_n hx hb dX3_takeOutOfMine_8 rfl (lv_at hl 0 rfl) ?_
      refine r_get (C := RX3) (T := TX3) (M := 4) (index := 12) (fd := "cards") (fo := "LCardMerger$Cards;") hx hb hts (by decide +kernel) hown hK hP 0 (by decide) cF_0 rfl 0 (by decide) rfl (by decide +kernel) rfl dX3_takeOutOfMine_9 ?_
      refine r_cnt hx hb hts (by decide +kernel) hown hK hP hT.1 dX3_takeOutOfMine_12 ?_
      refine r_cgeN (a := n) (b := n) (tgt := 83) hx hb (by omega) (by omega) dX3_takeOutOfMine_15 (by decide) (fun _ => ?_) (fun h => absurd h (by omega))
      refine lv_iload hx hb dX3_takeOutOfMine_83 (lv_at hl 4 rfl) ?_
      exact hret _ _ _ _ _ _ hP hS dX3_takeOutOfMine_85 (rfl) (rfl)
    · intro i hi6 ih6 H locs hP hS ls hl
      refine lv_iload hx hb dX3_takeOutOfMine_6 (lv_at hl 5 rfl) ?_
      refine lv_aload_n hx hb dX3_takeOutOfMine_8 rfl (lv_at hl 0 rfl) ?_
      refine r_get (C := RX3) (T := TX3) (M := 4) (index := 12) (fd := "cards") (fo := "LCardMerger$Cards;") hx hb hts (by decide +kernel) hown hK hP 0 (by decide) cF_0 rfl 0 (by decide) rfl (by decide +kernel) rfl dX3_takeOutOfMine_9 ?_
      refine r_cnt hx hb hts (by decide +kernel) hown hK hP hT.1 dX3_takeOutOfMine_12 ?_
      refine r_cgeN (a := i) (b := n) (tgt := 83) hx hb (by omega) (by omega) dX3_takeOutOfMine_15 (by decide) (fun h => absurd h (by omega)) (fun _ => ?_)
      refine lv_aload_n hx hb dX3_takeOutOfMine_18 rfl (lv_at hl 0 rfl) ?_
      refine r_get (C := RX3) (T := TX3) (M := 4) (index := 12) (fd := "cards") (fo := "LCardMerger$Cards;") hx hb hts (by decide +kernel) hown hK hP 0 (by decide) cF_0 rfl 0 (by decide) rfl (by decide +kernel) rfl dX3_takeOutOfMine_19 ?_
      refine lv_iload hx hb dX3_takeOutOfMine_22 (lv_at hl 5 rfl) ?_
      refine lv_iconst (v := nI 0) hx hb dX3_takeOutOfMine_24 (by decide) ?_
      refine lv_iload_n hx hb dX3_takeOutOfMine_25 rfl (lv_at hl 2 rfl) ?_
      refine k_Ri (va_runV (As := [.int (nI i), .int (nI 0), .int (nI k)]) (rest := []) hF (c_X0_setOf_0 l D cI cA ad n (tkS x g k v i) i k (by omega) hk) (cwV 3 hts gX3_takeOutOfMine_X0_setOf rfl rfl rfl (by decide +kernel) ⟨(Nat.le_of_ble_eq_true rfl), (Nat.le_of_ble_eq_true rfl)⟩) (k_pre hP hK hD hT (k := 1) (by decide) cF_1 rfl) rfl rfl hl.1 rfl (lv_room (Nat.le_of_ble_eq_true rfl)) dX3_takeOutOfMine_26 ⟨Nat.zero_le _, Nat.zero_le _⟩) ?_
      refine lv_istore (lv' := [(6, .int ((tkS x g k v i) (k + 16) i)), (0, .ref (ad 0)), (1, .int g), (2, .int (nI k)), (3, .int (nI v)), (4, .int (tkC x g k v i)), (5, .int (nI i))]) hx hb dX3_takeOutOfMine_29 hl (by decide) rfl (fun ls hl => ?_)
      refine lv_iload_n hx hb dX3_takeOutOfMine_31 rfl (lv_at hl 2 rfl) ?_
      refine lv_iload hx hb dX3_takeOutOfMine_32 (lv_at hl 6 rfl) ?_
      refine k_Ri (va_runS (As := [.int g, .int (nI i)]) (rest := []) hF (c_X3_has l i g) (va_cwS 2 hts gX3_takeOutOfMine_X3_has rfl rfl rfl (by decide +kernel) ⟨(Nat.le_of_ble_eq_true rfl), (Nat.le_of_ble_eq_true rfl)⟩) k_preS rfl rfl hl.1 rfl (lv_room (Nat.le_of_ble_eq_true rfl)) dX3_takeOutOfMine_34 ⟨Nat.zero_le _, Nat.zero_le _⟩) ?_
      refine r_ifeqB (b := hasB g i) (tgt := 77) hx hb dX3_takeOutOfMine_37 (by decide) (fun h37_3 => ?_) (fun h37_3 => ?_)
      · refine r_iincN (k := 6) (a := i) (d := 1) (r := i + 1) (lv' := [(5, .int (nI (i + 1))), (6, .int ((tkS x g k v i) (k + 16) i)), (0, .ref (ad 0)), (1, .int g), (2, .int (nI k)), (3, .int (nI v)), (4, .int (tkC x g k v i))]) hx hb dX3_takeOutOfMine_77 hl rfl (by omega) (by decide) rfl (fun ls hl => ?_)
        refine lv_goto (tgt := 6) hx hb dX3_takeOutOfMine_80 (by decide) ?_
        exact ih6 _ _ (by rw [show cF cI cA ad n (tkS x g k v (i + 1)) = cF cI cA ad n (tkS x g k v i) from by simp [tkS, h37_3]]; exact hP) hS _ (lv_cast (lv_sub (l' := [(0, .ref (ad 0)), (1, .int g), (2, .int (nI k)), (3, .int (nI v)), (4, .int (tkC x g k v i)), (5, .int (nI (i + 1)))]) hl [2, 3, 4, 5, 6, 0] rfl) (by rw [show (tkC x g k v (i + 1) : Int32) = tkC x g k v i from by simp [tkC, h37_3]]))
      · refine lv_iload hx hb dX3_takeOutOfMine_40 (lv_at hl 0 rfl) ?_
        refine lv_iload_n hx hb dX3_takeOutOfMine_42 rfl (lv_at hl 4 rfl) ?_
        refine k_Ri (va_runS (As := [.int ((tkS x g k v i) (k + 16) i), .int (nI v)]) (rest := []) hF (c_X3_has l v ((tkS x g k v i) (k + 16) i)) (va_cwS 2 hts gX3_takeOutOfMine_X3_has rfl rfl rfl (by decide +kernel) ⟨(Nat.le_of_ble_eq_true rfl), (Nat.le_of_ble_eq_true rfl)⟩) k_preS rfl rfl hl.1 rfl (lv_room (Nat.le_of_ble_eq_true rfl)) dX3_takeOutOfMine_43 ⟨Nat.zero_le _, Nat.zero_le _⟩) ?_
        refine r_ifeqB (b := hasB ((tkS x g k v i) (k + 16) i) v) (tgt := 77) hx hb dX3_takeOutOfMine_46 (by decide) (fun h46_4 => ?_) (fun h46_4 => ?_)
        · refine r_iincN (k := 6) (a := i) (d := 1) (r := i + 1) (lv' := [(5, .int (nI (i + 1))), (6, .int ((tkS x g k v i) (k + 16) i)), (0, .ref (ad 0)), (1, .int g), (2, .int (nI k)), (3, .int (nI v)), (4, .int (tkC x g k v i))]) hx hb dX3_takeOutOfMine_77 hl rfl (by omega) (by decide) rfl (fun ls hl => ?_)
          refine lv_goto (tgt := 6) hx hb dX3_takeOutOfMine_80 (by decide) ?_
          exact ih6 _ _ (by rw [show cF cI cA ad n (tkS x g k v (i + 1)) = cF cI cA ad n (tkS x g k v i) from by simp [tkS, h37_3, h46_4]]; exact hP) hS _ (lv_cast (lv_sub (l' := [(0, .ref (ad 0)), (1, .int g), (2, .int (nI k)), (3, .int (nI v)), (4, .int (tkC x g k v i)), (5, .int (nI (i + 1)))]) hl [2, 3, 4, 5, 6, 0] rfl) (by rw [show (tkC x g k v (i + 1) : Int32) = tkC x g k v i from by simp [tkC, h37_3, h46_4]]))
        · refine lv_aload_n hx hb dX3_takeOutOfMine_49 rfl (lv_at hl 1 rfl) ?_
          refine r_get (C := RX3) (T := TX3) (M := 4) (index := 12) (fd := "cards") (fo := "LCardMerger$Cards;") hx hb hts (by decide +kernel) hown hK hP 0 (by decide) cF_0 rfl 0 (by decide) rfl (by decide +kernel) rfl dX3_takeOutOfMine_50 ?_
          refine lv_iload hx hb dX3_takeOutOfMine_53 (lv_at hl 6 rfl) ?_
          refine lv_iconst (v := nI 0) hx hb dX3_takeOutOfMine_55 (by decide) ?_
          refine lv_iload_n hx hb dX3_takeOutOfMine_56 rfl (lv_at hl 3 rfl) ?_
          refine lv_iload hx hb dX3_takeOutOfMine_57 (lv_at hl 0 rfl) ?_
          refine lv_iconst (v := nI 1) hx hb dX3_takeOutOfMine_59 (by decide) ?_
          refine lv_iload_n hx hb dX3_takeOutOfMine_60 rfl (lv_at hl 4 rfl) ?_
          refine r_bit hx hb dX3_takeOutOfMine_61 ?_
          refine lv_iconst (v := (-1)) hx hb dX3_takeOutOfMine_62 (by decide) ?_
          refine lv_ixor hx hb dX3_takeOutOfMine_63 ?_
          refine lv_iand hx hb dX3_takeOutOfMine_64 ?_
          refine k_Wv (va_runV (As := [.int (nI i), .int (nI 0), .int (nI k), .int (((tkS x g k v i) (k + 16) i) &&& ((bit v) ^^^ ((-1))))]) (rest := []) hF (c_X0_putSet l D cI cA ad n (tkS x g k v i) i 0 k (((tkS x g k v i) (k + 16) i) &&& ((bit v) ^^^ ((-1)))) (by omega) (by omega) hk) (cwV 4 hts gX3_takeOutOfMine_X0_putSet rfl rfl rfl (by decide +kernel) ⟨(Nat.le_of_ble_eq_true rfl), (Nat.le_of_ble_eq_true rfl)⟩) (k_pre hP hK hD hT (k := 1) (by decide) cF_1 rfl) rfl rfl hl.1 rfl (lv_room (Nat.le_of_ble_eq_true rfl)) dX3_takeOutOfMine_65 ⟨Nat.zero_le _, Nat.zero_le _⟩) hD hS (fun H locs hP hS => ?_)
          refine lv_iload hx hb dX3_takeOutOfMine_68 (lv_at hl 5 rfl) ?_
          refine lv_iconst (v := nI 1) hx hb dX3_takeOutOfMine_70 (by decide) ?_
          refine lv_iload hx hb dX3_takeOutOfMine_71 (lv_at hl 6 rfl) ?_
          refine r_bit hx hb dX3_takeOutOfMine_73 ?_
          refine lv_ior hx hb dX3_takeOutOfMine_74 ?_
          refine lv_istore (lv' := [(4, .int ((tkC x g k v i) ||| (bit i))), (6, .int ((tkS x g k v i) (k + 16) i)), (0, .ref (ad 0)), (1, .int g), (2, .int (nI k)), (3, .int (nI v)), (5, .int (nI i))]) hx hb dX3_takeOutOfMine_75 hl (by decide) rfl (fun ls hl => ?_)
          refine r_iincN (k := 6) (a := i) (d := 1) (r := i + 1) (lv' := [(5, .int (nI (i + 1))), (4, .int ((tkC x g k v i) ||| (bit i))), (6, .int ((tkS x g k v i) (k + 16) i)), (0, .ref (ad 0)), (1, .int g), (2, .int (nI k)), (3, .int (nI v))]) hx hb dX3_takeOutOfMine_77 hl rfl (by omega) (by decide) rfl (fun ls hl => ?_)
          refine lv_goto (tgt := 6) hx hb dX3_takeOutOfMine_80 (by decide) ?_
          exact ih6 _ _ (by rw [show cF cI cA ad n (tkS x g k v (i + 1)) = cF cI cA ad n (putS (tkS x g k v i) i 0 k (((tkS x g k v i) (k + 16) i) &&& ((bit v) ^^^ ((-1))))) from by simp [tkS, h37_3, h46_4]]; exact hP) hS _ (lv_cast (lv_sub (l' := [(0, .ref (ad 0)), (1, .int g), (2, .int (nI k)), (3, .int (nI v)), (4, .int ((tkC x g k v i) ||| (bit i))), (5, .int (nI (i + 1)))]) hl [3, 4, 5, 6, 1, 0] rfl) (by rw [show (tkC x g k v (i + 1) : Int32) = (tkC x g k v i) ||| (bit i) from by simp [tkC, h37_3, h46_4]]))
  exact hL6 0 (Nat.zero_le _) _ _ (by rw [show cF cI cA ad n (tkS x g k v 0) = cF cI cA ad n x from rfl]; exact hP) hS _ (lv_cast (lv_sub (l' := [(0, .ref (ad 0)), (1, .int g), (2, .int (nI k)), (3, .int (nI v)), (4, .int (nI 0)), (5, .int (nI 0))]) hl [2, 3, 4, 5, 1, 0] rfl) (by rw [show (tkC x g k v 0 : Int32) = nI 0 from rfl]))
set_option maxHeartbeats 4000000 in
set_option maxRecDepth 100000 in
theorem c_X3_scoreOf (l : Launch) (D : va_G) (cI : ClassId) (cA : ClassId) (ad : Nat → Nat) (n : Nat) (x : Nat → Nat → Int32) (c : Nat) (d : Nat) (hc : c < 24) (hd : d < 24) : Met l yX3_scoreOf wsX3_scoreOf ({ frames := 2, cells := 0, slots := 0, locals := 46 }) (va_Pc [.ref (ad 0), .int (nI c), .int (nI d)] (cX D cI cA ad n x)) (qR (some (.int (sc x c d)))) 0 0 nF := by
  refine c_ofR (cc := cX3_scoreOf) (maxL := 5) (ret := .int) (by decide) rfl rfl (Nat.le_of_ble_eq_true rfl) ?_
  intro p e s m av below meth cd Q hx hb hF hP hK hD hT hret ls hl
  have hown : s.vm.findClass RX3 = some m.cls := hF.2.2.2.1
  have hF : CallFix p m cd cX3_scoreOf 5 s av wsX3_scoreOf RX3 := hF
  have hts := hF.2.2.2.2
  have hl : lv_has ls 5 [(0, .ref (ad 0)), (1, .int (nI c)), (2, .int (nI d))] := hl
  refine lv_aload_n hx hb dX3_scoreOf_0 rfl (lv_at hl 0 rfl) ?_
  refine r_get (C := RX3) (T := TX3) (M := 4) (index := 19) (fd := "links") (fo := "LCardMerger$Links;") hx hb hts (by decide +kernel) hown hK hP 0 (by decide) cF_0 rfl 1 (by decide) rfl (by decide +kernel) rfl dX3_scoreOf_1 ?_
  refine lv_iload_n hx hb dX3_scoreOf_4 rfl (lv_at hl 1 rfl) ?_
  refine lv_iload_n hx hb dX3_scoreOf_5 rfl (lv_at hl 2 rfl) ?_
  refine k_Ri (va_runV (As := [.int (nI c), .int (nI d)]) (rest := []) hF (c_X1_areTogether l D cI cA ad n x c d hc) (cwV 2 hts gX3_scoreOf_X1_areTogether rfl rfl rfl (by decide +kernel) ⟨(Nat.le_of_ble_eq_true rfl), (Nat.le_of_ble_eq_true rfl)⟩) (k_pre hP hK hD hT (k := 2) (by decide) cF_2 rfl) rfl rfl hl.1 rfl (lv_room (Nat.le_of_ble_eq_true rfl)) dX3_scoreOf_6 ⟨Nat.zero_le _, Nat.zero_le _⟩) ?_
  refine r_ifeqB (b := hasB (x 9 c) d) (tgt := 14) hx hb dX3_scoreOf_9 (by decide) (fun h9_1 => ?_) (fun h9_1 => ?_)
  · refine lv_iconst (v := nI 3) hx hb dX3_scoreOf_14 (by decide) ?_
    refine lv_aload_n hx hb dX3_scoreOf_15 rfl (lv_at hl 0 rfl) ?_
    refine r_get (C := RX3) (T := TX3) (M := 4) (index := 12) (fd := "cards") (fo := "LCardMerger$Cards;") hx hb hts (by decide +kernel) hown hK hP 0 (by decide) cF_0 rfl 0 (by decide) rfl (by decide +kernel) rfl dX3_scoreOf_16 ?_
    refine lv_iload_n hx hb dX3_scoreOf_19 rfl (lv_at hl 1 rfl) ?_
    refine lv_iload_n hx hb dX3_scoreOf_20 rfl (lv_at hl 2 rfl) ?_
    refine lv_iconst (v := nI 0) hx hb dX3_scoreOf_21 (by decide) ?_
    refine k_Ri (va_runV (As := [.int (nI c), .int (nI d), .int (nI 0)]) (rest := [.int (nI 3)]) hF (c_X0_countShared l D cI cA ad n x c d 0 hc hd (by omega)) (cwV 3 hts gX3_scoreOf_X0_countShared rfl rfl rfl (by decide +kernel) ⟨(Nat.le_of_ble_eq_true rfl), (Nat.le_of_ble_eq_true rfl)⟩) (k_pre hP hK hD hT (k := 1) (by decide) cF_1 rfl) rfl rfl hl.1 rfl (lv_room (Nat.le_of_ble_eq_true rfl)) dX3_scoreOf_22 ⟨Nat.zero_le _, Nat.zero_le _⟩) ?_
    refine lv_imul hx hb dX3_scoreOf_25 ?_
    refine lv_iconst (v := nI 2) hx hb dX3_scoreOf_26 (by decide) ?_
    refine lv_aload_n hx hb dX3_scoreOf_27 rfl (lv_at hl 0 rfl) ?_
    refine r_get (C := RX3) (T := TX3) (M := 4) (index := 12) (fd := "cards") (fo := "LCardMerger$Cards;") hx hb hts (by decide +kernel) hown hK hP 0 (by decide) cF_0 rfl 0 (by decide) rfl (by decide +kernel) rfl dX3_scoreOf_28 ?_
    refine lv_iload_n hx hb dX3_scoreOf_31 rfl (lv_at hl 1 rfl) ?_
    refine lv_iload_n hx hb dX3_scoreOf_32 rfl (lv_at hl 2 rfl) ?_
    refine lv_iconst (v := nI 1) hx hb dX3_scoreOf_33 (by decide) ?_
    refine k_Ri (va_runV (As := [.int (nI c), .int (nI d), .int (nI 1)]) (rest := [.int (nI 2), .int ((nI 3) * (shr x c d 0))]) hF (c_X0_countShared l D cI cA ad n x c d 1 hc hd (by omega)) (cwV 3 hts gX3_scoreOf_X0_countShared rfl rfl rfl (by decide +kernel) ⟨(Nat.le_of_ble_eq_true rfl), (Nat.le_of_ble_eq_true rfl)⟩) (k_pre hP hK hD hT (k := 1) (by decide) cF_1 rfl) rfl rfl hl.1 rfl (lv_room (Nat.le_of_ble_eq_true rfl)) dX3_scoreOf_34 ⟨Nat.zero_le _, Nat.zero_le _⟩) ?_
    refine lv_imul hx hb dX3_scoreOf_37 ?_
    refine lv_iadd hx hb dX3_scoreOf_38 ?_
    refine lv_istore_n (lv' := [(3, .int (((nI 3) * (shr x c d 0)) + ((nI 2) * (shr x c d 1)))), (0, .ref (ad 0)), (1, .int (nI c)), (2, .int (nI d))]) hx hb dX3_scoreOf_39 rfl hl (by decide) rfl (fun ls hl => ?_)
    refine lv_aload_n hx hb dX3_scoreOf_40 rfl (lv_at hl 1 rfl) ?_
    refine r_get (C := RX3) (T := TX3) (M := 4) (index := 12) (fd := "cards") (fo := "LCardMerger$Cards;") hx hb hts (by decide +kernel) hown hK hP 0 (by decide) cF_0 rfl 0 (by decide) rfl (by decide +kernel) rfl dX3_scoreOf_41 ?_
    refine lv_iload_n hx hb dX3_scoreOf_44 rfl (lv_at hl 2 rfl) ?_
    refine lv_iconst (v := nI 0) hx hb dX3_scoreOf_45 (by decide) ?_
    refine k_Ri (va_runV (As := [.int (nI c), .int (nI 0)]) (rest := []) hF (c_X0_nameIn_0 l D cI cA ad n x c hc) (cwV 2 hts gX3_scoreOf_X0_nameIn rfl rfl rfl (by decide +kernel) ⟨(Nat.le_of_ble_eq_true rfl), (Nat.le_of_ble_eq_true rfl)⟩) (k_pre hP hK hD hT (k := 1) (by decide) cF_1 rfl) rfl rfl hl.1 rfl (lv_room (Nat.le_of_ble_eq_true rfl)) dX3_scoreOf_46 ⟨Nat.zero_le _, Nat.zero_le _⟩) ?_
    refine lv_aload_n hx hb dX3_scoreOf_49 rfl (lv_at hl 1 rfl) ?_
    refine r_get (C := RX3) (T := TX3) (M := 4) (index := 12) (fd := "cards") (fo := "LCardMerger$Cards;") hx hb hts (by decide +kernel) hown hK hP 0 (by decide) cF_0 rfl 0 (by decide) rfl (by decide +kernel) rfl dX3_scoreOf_50 ?_
    refine lv_iload_n hx hb dX3_scoreOf_53 rfl (lv_at hl 3 rfl) ?_
    refine lv_iconst (v := nI 0) hx hb dX3_scoreOf_54 (by decide) ?_
    refine k_Ri (va_runV (As := [.int (nI d), .int (nI 0)]) (rest := [.int (x 13 c)]) hF (c_X0_nameIn_0 l D cI cA ad n x d hd) (cwV 2 hts gX3_scoreOf_X0_nameIn rfl rfl rfl (by decide +kernel) ⟨(Nat.le_of_ble_eq_true rfl), (Nat.le_of_ble_eq_true rfl)⟩) (k_pre hP hK hD hT (k := 1) (by decide) cF_1 rfl) rfl rfl hl.1 rfl (lv_room (Nat.le_of_ble_eq_true rfl)) dX3_scoreOf_55 ⟨Nat.zero_le _, Nat.zero_le _⟩) ?_
    refine lv_icmp_ne (tgt := 65) hx hb dX3_scoreOf_58 (by decide) (fun h58_2 => ?_) (fun h58_2 => ?_)
    · refine lv_iconst (v := nI 0) hx hb dX3_scoreOf_65 (by decide) ?_
      refine lv_istore (lv' := [(4, .int (nI 0)), (3, .int (((nI 3) * (shr x c d 0)) + ((nI 2) * (shr x c d 1)))), (0, .ref (ad 0)), (1, .int (nI c)), (2, .int (nI d))]) hx hb dX3_scoreOf_66 hl (by decide) rfl (fun ls hl => ?_)
      refine lv_iload hx hb dX3_scoreOf_68 (lv_at hl 0 rfl) ?_
      refine r_ifeqN (a := 0) (tgt := 79) hx hb (by omega) dX3_scoreOf_70 (by decide) (fun _ => ?_) (fun h => absurd h (by omega))
      refine lv_iload_n hx hb dX3_scoreOf_79 rfl (lv_at hl 1 rfl) ?_
      exact hret _ _ _ dX3_scoreOf_80 (by simp [sc, h9_1, h58_2])
    · refine lv_iconst (v := nI 1) hx hb dX3_scoreOf_61 (by decide) ?_
      refine lv_goto (tgt := 66) hx hb dX3_scoreOf_62 (by decide) ?_
      refine lv_istore (lv' := [(4, .int (nI 1)), (3, .int (((nI 3) * (shr x c d 0)) + ((nI 2) * (shr x c d 1)))), (0, .ref (ad 0)), (1, .int (nI c)), (2, .int (nI d))]) hx hb dX3_scoreOf_66 hl (by decide) rfl (fun ls hl => ?_)
      refine lv_iload hx hb dX3_scoreOf_68 (lv_at hl 0 rfl) ?_
      refine r_ifeqN (a := 1) (tgt := 79) hx hb (by omega) dX3_scoreOf_70 (by decide) (fun h => absurd h (by omega)) (fun _ => ?_)
      refine lv_iload_n hx hb dX3_scoreOf_73 rfl (lv_at hl 1 rfl) ?_
      refine lv_iconst (v := nI 2) hx hb dX3_scoreOf_74 (by decide) ?_
      refine lv_iadd hx hb dX3_scoreOf_75 ?_
      refine lv_goto (tgt := 80) hx hb dX3_scoreOf_76 (by decide) ?_
      exact hret _ _ _ dX3_scoreOf_80 (by simp [sc, h9_1, h58_2])
  · refine lv_iconst (v := nI 0) hx hb dX3_scoreOf_12 (by decide) ?_
    exact hret _ _ _ dX3_scoreOf_13 (by simp [sc, h9_1])
set_option maxHeartbeats 4000000 in
set_option maxRecDepth 100000 in
theorem c_X3_suggestedScore (l : Launch) (D : va_G) (cI : ClassId) (cA : ClassId) (ad : Nat → Nat) (n : Nat) (x : Nat → Nat → Int32) (c : Nat) (d : Nat) (hc : c < 24) (hd : d < 24) : Met l yX3_suggestedScore wsX3_suggestedScore ({ frames := 3, cells := 0, slots := 0, locals := 70 }) (va_Pc [.ref (ad 0), .int (nI c), .int (nI d)] (cX D cI cA ad n x)) (qR (some (.int (sg x c d)))) 0 0 nF := by
  refine c_ofR (cc := cX3_suggestedScore) (maxL := 3) (ret := .int) (by decide) rfl rfl (Nat.le_of_ble_eq_true rfl) ?_
  intro p e s m av below meth cd Q hx hb hF hP hK hD hT hret ls hl
  have hown : s.vm.findClass RX3 = some m.cls := hF.2.2.2.1
  have hF : CallFix p m cd cX3_suggestedScore 3 s av wsX3_suggestedScore RX3 := hF
  have hts := hF.2.2.2.2
  have hl : lv_has ls 3 [(0, .ref (ad 0)), (1, .int (nI c)), (2, .int (nI d))] := hl
  refine lv_aload_n hx hb dX3_suggestedScore_0 rfl (lv_at hl 0 rfl) ?_
  refine r_get (C := RX3) (T := TX3) (M := 4) (index := 26) (fd := "refusals") (fo := "LCardMerger$Refusals;") hx hb hts (by decide +kernel) hown hK hP 0 (by decide) cF_0 rfl 2 (by decide) rfl (by decide +kernel) rfl dX3_suggestedScore_1 ?_
  refine lv_iload_n hx hb dX3_suggestedScore_4 rfl (lv_at hl 1 rfl) ?_
  refine lv_iload_n hx hb dX3_suggestedScore_5 rfl (lv_at hl 2 rfl) ?_
  refine lv_aload_n hx hb dX3_suggestedScore_6 rfl (lv_at hl 0 rfl) ?_
  refine r_get (C := RX3) (T := TX3) (M := 4) (index := 12) (fd := "cards") (fo := "LCardMerger$Cards;") hx hb hts (by decide +kernel) hown hK hP 0 (by decide) cF_0 rfl 0 (by decide) rfl (by decide +kernel) rfl dX3_suggestedScore_7 ?_
  refine lv_iload_n hx hb dX3_suggestedScore_10 rfl (lv_at hl 1 rfl) ?_
  refine lv_iload_n hx hb dX3_suggestedScore_11 rfl (lv_at hl 2 rfl) ?_
  refine k_Ri (va_runV (As := [.int (nI c), .int (nI d)]) (rest := [.int (nI d), .int (nI c), .ref (ad 3)]) hF (c_X0_mineChangesOf l D cI cA ad n x c d hc hd) (cwV 2 hts gX3_suggestedScore_X0_mineChangesOf rfl rfl rfl (by decide +kernel) ⟨(Nat.le_of_ble_eq_true rfl), (Nat.le_of_ble_eq_true rfl)⟩) (k_pre hP hK hD hT (k := 1) (by decide) cF_1 rfl) rfl rfl hl.1 rfl (lv_room (Nat.le_of_ble_eq_true rfl)) dX3_suggestedScore_12 ⟨Nat.zero_le _, Nat.zero_le _⟩) ?_
  refine k_Ri (va_runV (As := [.int (nI c), .int (nI d), .int (mcOf x c d)]) (rest := []) hF (c_X2_stands l D cI cA ad n x c d (mcOf x c d) hc hd) (cwV 3 hts gX3_suggestedScore_X2_stands rfl rfl rfl (by decide +kernel) ⟨(Nat.le_of_ble_eq_true rfl), (Nat.le_of_ble_eq_true rfl)⟩) (k_pre hP hK hD hT (k := 3) (by decide) cF_3 rfl) rfl rfl hl.1 rfl (lv_room (Nat.le_of_ble_eq_true rfl)) dX3_suggestedScore_15 ⟨Nat.zero_le _, Nat.zero_le _⟩) ?_
  refine r_ifeqB (b := staB x c d (mcOf x c d)) (tgt := 23) hx hb dX3_suggestedScore_18 (by decide) (fun h18_1 => ?_) (fun h18_1 => ?_)
  · refine lv_aload_n hx hb dX3_suggestedScore_23 rfl (lv_at hl 0 rfl) ?_
    refine lv_iload_n hx hb dX3_suggestedScore_24 rfl (lv_at hl 1 rfl) ?_
    refine lv_iload_n hx hb dX3_suggestedScore_25 rfl (lv_at hl 2 rfl) ?_
    refine k_Ri (va_runV (As := [.int (nI c), .int (nI d)]) (rest := []) hF (c_X3_scoreOf l D cI cA ad n x c d hc hd) (cwV 2 hts gX3_suggestedScore_X3_scoreOf rfl rfl rfl (by decide +kernel) ⟨(Nat.le_of_ble_eq_true rfl), (Nat.le_of_ble_eq_true rfl)⟩) (k_pre hP hK hD hT (k := 0) (by decide) cF_0 rfl) rfl rfl hl.1 rfl (lv_room (Nat.le_of_ble_eq_true rfl)) dX3_suggestedScore_26 ⟨Nat.zero_le _, Nat.zero_le _⟩) ?_
    exact hret _ _ _ dX3_suggestedScore_29 (by simp [sg, h18_1])
  · refine lv_iconst (v := nI 0) hx hb dX3_suggestedScore_21 (by decide) ?_
    exact hret _ _ _ dX3_suggestedScore_22 (by simp [sg, h18_1])
set_option maxHeartbeats 4000000 in
set_option maxRecDepth 100000 in
theorem c_X3_tallyPairs (l : Launch) (D : va_G) (cI : ClassId) (cA : ClassId) (ad : Nat → Nat) (n : Nat) (x : Nat → Nat → Int32) (hn : n ≤ 24) : Met l yX3_tallyPairs wsX3_tallyPairs ({ frames := 4, cells := 0, slots := 0, locals := 92 }) (va_Pc [.ref (ad 0)] (cX D cI cA ad n x)) (qW D ad (cF cI cA ad n (tlS x n)) 46 (some (.int (tlC x n)))) 0 0 (wA ad 46) := by
  refine c_ofW (cc := cX3_tallyPairs) (maxL := 5) (ret := .int) (by decide) rfl rfl (Nat.le_of_ble_eq_true rfl) ?_
  intro p e s m av below meth cd Q hx hb hF hP hK hD hT hret ls hl
  have hown : s.vm.findClass RX3 = some m.cls := hF.2.2.2.1
  have hF : CallFix p m cd cX3_tallyPairs 5 s av wsX3_tallyPairs RX3 := hF
  have hts := hF.2.2.2.2
  have hl : lv_has ls 5 [(0, .ref (ad 0))] := hl
  obtain ⟨H, eH⟩ : ∃ H9 : Heap, H9 = s.heap := ⟨_, rfl⟩
  obtain ⟨locs, eL⟩ : ∃ L9 : List Loc, L9 = [] := ⟨_, rfl⟩
  have hS : sS (wA ad 46) s.heap H locs := by rw [eH, eL]; exact sS.rf
  rw [← eH] at hP
  suffices hgo : W p l e ({ frames := 4, cells := 0, slots := 0, locals := 92 }) s m av below meth cd H locs 0 0 Q (F0 m 0 ls []) by rw [eH, eL] at hgo; exact hgo
  clear eH eL
  refine lv_iconst (v := nI 0) hx hb dX3_tallyPairs_0 (by decide) ?_
  refine lv_istore_n (lv' := [(1, .int (nI 0)), (0, .ref (ad 0))]) hx hb dX3_tallyPairs_1 rfl hl (by decide) rfl (fun ls hl => ?_)
  have hL2 : ∀ a : Nat, a ≤ 153 → ∀ (H : Heap) (locs : List Loc), va_P D vwCl (wl ad (cF cI cA ad n (clr x a)) 46) H → sS (wA ad 46) s.heap H locs → ∀ ls : Array Slot, lv_has ls 5 [(0, .ref (ad 0)), (1, .int (nI a))] → W p l e ({ frames := 4, cells := 0, slots := 0, locals := 92 }) s m av below meth cd H locs 0 0 Q (F0 m 2 ls []) := by
    refine down (153) ?_ ?_
    · intro H locs hP hS ls hl
      refine lv_iload_n hx hb dX3_tallyPairs_2 rfl (lv_at hl 1 rfl) ?_
      refine lv_sipush (v := nI 152) hx hb dX3_tallyPairs_3 (by decide) ?_
      refine r_cgtN (a := 153) (b := 152) (tgt := 22) hx hb (by omega) (by omega) dX3_tallyPairs_6 (by decide) (fun _ => ?_) (fun h => absurd h (by omega))
      refine lv_iconst (v := nI 0) hx hb dX3_tallyPairs_22 (by decide) ?_
      refine lv_istore_n (lv' := [(1, .int (nI 0)), (0, .ref (ad 0))]) hx hb dX3_tallyPairs_23 rfl hl (by decide) rfl (fun ls hl => ?_)
      refine lv_iconst (v := nI 0) hx hb dX3_tallyPairs_24 (by decide) ?_
      refine lv_istore_n (lv' := [(2, .int (nI 0)), (1, .int (nI 0)), (0, .ref (ad 0))]) hx hb dX3_tallyPairs_25 rfl hl (by decide) rfl (fun ls hl => ?_)
      have hL26 : ∀ i : Nat, i ≤ n → ∀ (H : Heap) (locs : List Loc), va_P D vwCl (wl ad (cF cI cA ad n (outS (clr x 153) n i)) 46) H → sS (wA ad 46) s.heap H locs → ∀ ls : Array Slot, lv_has ls 5 [(0, .ref (ad 0)), (1, .int (outC (clr x 153) n i)), (2, .int (nI i))] → W p l e ({ frames := 4, cells := 0, slots := 0, locals := 92 }) s m av below meth cd H locs 0 0 Q (F0 m 26 ls []) := by
        refine down (n) ?_ ?_
        · intro H locs hP hS ls hl
          refine lv_iload_n hx hb dX3_tallyPairs_26 rfl (lv_at hl 2 rfl) ?_
          refine lv_aload_n hx hb dX3_tallyPairs_27 rfl (lv_at hl 0 rfl) ?_
          refine r_get (C := RX3) (T := TX3) (M := 4) (index := 12) (fd := "cards") (fo := "LCardMerger$Cards;") hx hb hts (by decide +kernel) hown hK hP 0 (by decide) cF_0 rfl 0 (by decide) rfl (by decide +kernel) rfl dX3_tallyPairs_28 ?_
          refine r_cnt hx hb hts (by decide +kernel) hown hK hP hT.1 dX3_tallyPairs_31 ?_
          refine r_cgeN (a := n) (b := n) (tgt := 99) hx hb (by omega) (by omega) dX3_tallyPairs_34 (by decide) (fun _ => ?_) (fun h => absurd h (by omega))
          refine lv_iload_n hx hb dX3_tallyPairs_99 rfl (lv_at hl 1 rfl) ?_
          exact hret _ _ _ _ _ _ hP hS dX3_tallyPairs_100 (rfl) (rfl)
        · intro i hi26 ih26 H locs hP hS ls hl
          refine lv_iload_n hx hb dX3_tallyPairs_26 rfl (lv_at hl 2 rfl) ?_
          refine lv_aload_n hx hb dX3_tallyPairs_27 rfl (lv_at hl 0 rfl) ?_
          refine r_get (C := RX3) (T := TX3) (M := 4) (index := 12) (fd := "cards") (fo := "LCardMerger$Cards;") hx hb hts (by decide +kernel) hown hK hP 0 (by decide) cF_0 rfl 0 (by decide) rfl (by decide +kernel) rfl dX3_tallyPairs_28 ?_
          refine r_cnt hx hb hts (by decide +kernel) hown hK hP hT.1 dX3_tallyPairs_31 ?_
          refine r_cgeN (a := i) (b := n) (tgt := 99) hx hb (by omega) (by omega) dX3_tallyPairs_34 (by decide) (fun h => absurd h (by omega)) (fun _ => ?_)
          obtain ⟨w, hw⟩ : ∃ w, n = i + 1 + w := ⟨n - (i + 1), by omega⟩
          refine lv_iload_n hx hb dX3_tallyPairs_37 rfl (lv_at hl 2 rfl) ?_
          refine lv_iconst (v := nI 1) hx hb dX3_tallyPairs_38 (by decide) ?_
          refine r_addN (a := i) (b := 1) (r := i + 1) hx hb dX3_tallyPairs_39 (by omega) ?_
          refine lv_istore_n (lv' := [(3, .int (nI (i + 1))), (0, .ref (ad 0)), (1, .int (outC (clr x 153) n i)), (2, .int (nI i))]) hx hb dX3_tallyPairs_40 rfl hl (by decide) rfl (fun ls hl => ?_)
          have hL41 : ∀ k : Nat, k ≤ w → ∀ (H : Heap) (locs : List Loc), va_P D vwCl (wl ad (cF cI cA ad n (inS (outS (clr x 153) n i) i k)) 46) H → sS (wA ad 46) s.heap H locs → ∀ ls : Array Slot, lv_has ls 5 [(0, .ref (ad 0)), (1, .int (inC (outS (clr x 153) n i) i (outC (clr x 153) n i) k)), (2, .int (nI i)), (3, .int (nI (k + i + 1)))] → W p l e ({ frames := 4, cells := 0, slots := 0, locals := 92 }) s m av below meth cd H locs 0 0 Q (F0 m 41 ls []) := by
            refine down (w) ?_ ?_
            · intro H locs hP hS ls hl
              refine lv_iload_n hx hb dX3_tallyPairs_41 rfl (lv_at hl 3 rfl) ?_
              refine lv_aload_n hx hb dX3_tallyPairs_42 rfl (lv_at hl 0 rfl) ?_
              refine r_get (C := RX3) (T := TX3) (M := 4) (index := 12) (fd := "cards") (fo := "LCardMerger$Cards;") hx hb hts (by decide +kernel) hown hK hP 0 (by decide) cF_0 rfl 0 (by decide) rfl (by decide +kernel) rfl dX3_tallyPairs_43 ?_
              refine r_cnt hx hb hts (by decide +kernel) hown hK hP hT.1 dX3_tallyPairs_46 ?_
              refine r_cgeN (a := w + i + 1) (b := n) (tgt := 93) hx hb (by omega) (by omega) dX3_tallyPairs_49 (by decide) (fun _ => ?_) (fun h => absurd h (by omega))
              refine r_iincN (k := 2) (a := i) (d := 1) (r := i + 1) (lv' := [(2, .int (nI (i + 1))), (0, .ref (ad 0)), (1, .int (inC (outS (clr x 153) n i) i (outC (clr x 153) n i) w)), (3, .int (nI (w + i + 1)))]) hx hb dX3_tallyPairs_93 hl rfl (by omega) (by decide) rfl (fun ls hl => ?_)
              refine lv_goto (tgt := 26) hx hb dX3_tallyPairs_96 (by decide) ?_
              exact ih26 _ _ (by rw [show cF cI cA ad n (outS (clr x 153) n (i + 1)) = cF cI cA ad n (inS (outS (clr x 153) n i) i w) from by rw [outS_s hw]]; exact hP) hS _ (lv_cast (lv_sub (l' := [(0, .ref (ad 0)), (1, .int (inC (outS (clr x 153) n i) i (outC (clr x 153) n i) w)), (2, .int (nI (i + 1)))]) hl [1, 2, 0] rfl) (by rw [show (outC (clr x 153) n (i + 1) : Int32) = inC (outS (clr x 153) n i) i (outC (clr x 153) n i) w from by rw [outC_s hw]]))
            · intro k hi41 ih41 H locs hP hS ls hl
              refine lv_iload_n hx hb dX3_tallyPairs_41 rfl (lv_at hl 3 rfl) ?_
              refine lv_aload_n hx hb dX3_tallyPairs_42 rfl (lv_at hl 0 rfl) ?_
              refine r_get (C := RX3) (T := TX3) (M := 4) (index := 12) (fd := "cards") (fo := "LCardMerger$Cards;") hx hb hts (by decide +kernel) hown hK hP 0 (by decide) cF_0 rfl 0 (by decide) rfl (by decide +kernel) rfl dX3_tallyPairs_43 ?_
              refine r_cnt hx hb hts (by decide +kernel) hown hK hP hT.1 dX3_tallyPairs_46 ?_
              refine r_cgeN (a := k + i + 1) (b := n) (tgt := 93) hx hb (by omega) (by omega) dX3_tallyPairs_49 (by decide) (fun h => absurd h (by omega)) (fun _ => ?_)
              refine lv_aload_n hx hb dX3_tallyPairs_52 rfl (lv_at hl 0 rfl) ?_
              refine lv_iload_n hx hb dX3_tallyPairs_53 rfl (lv_at hl 2 rfl) ?_
              refine lv_iload_n hx hb dX3_tallyPairs_54 rfl (lv_at hl 3 rfl) ?_
              refine k_Ri (va_runV (As := [.int (nI i), .int (nI (k + i + 1))]) (rest := []) hF (c_X3_suggestedScore l D cI cA ad n (inS (outS (clr x 153) n i) i k) i (k + i + 1) (by omega) (by omega)) (cwV 2 hts gX3_tallyPairs_X3_suggestedScore rfl rfl rfl (by decide +kernel) ⟨(Nat.le_of_ble_eq_true rfl), (Nat.le_of_ble_eq_true rfl)⟩) (k_pre hP hK hD hT (k := 0) (by decide) cF_0 rfl) rfl rfl hl.1 rfl (lv_room (Nat.le_of_ble_eq_true rfl)) dX3_tallyPairs_55 ⟨Nat.zero_le _, Nat.zero_le _⟩) ?_
              refine lv_istore (lv' := [(4, .int (sg (inS (outS (clr x 153) n i) i k) i (k + i + 1))), (0, .ref (ad 0)), (1, .int (inC (outS (clr x 153) n i) i (outC (clr x 153) n i) k)), (2, .int (nI i)), (3, .int (nI (k + i + 1)))]) hx hb dX3_tallyPairs_58 hl (by decide) rfl (fun ls hl => ?_)
              refine lv_iload hx hb dX3_tallyPairs_60 (lv_at hl 0 rfl) ?_
              refine lv_if_le (tgt := 87) hx hb dX3_tallyPairs_62 (by decide) (fun h62_6 => ?_) (fun h62_6 => ?_)
              · refine r_iincN (k := 4) (a := k + i + 1) (d := 1) (r := k + i + 2) (lv' := [(3, .int (nI (k + i + 2))), (4, .int (sg (inS (outS (clr x 153) n i) i k) i (k + i + 1))), (0, .ref (ad 0)), (1, .int (inC (outS (clr x 153) n i) i (outC (clr x 153) n i) k)), (2, .int (nI i))]) hx hb dX3_tallyPairs_87 hl rfl (by omega) (by decide) rfl (fun ls hl => ?_)
                refine lv_goto (tgt := 41) hx hb dX3_tallyPairs_90 (by decide) ?_
                exact ih41 _ _ (by rw [show cF cI cA ad n (inS (outS (clr x 153) n i) i (k + 1)) = cF cI cA ad n (inS (outS (clr x 153) n i) i k) from by first | rw [inS_t hsgc] | rw [inS_f hsgc] | rw [inS_f (by assumption)] | rw [inS_n (by assumption)]]; exact hP) hS _ (lv_cast (lv_sub (l' := [(0, .ref (ad 0)), (1, .int (inC (outS (clr x 153) n i) i (outC (clr x 153) n i) k)), (2, .int (nI i)), (3, .int (nI (k + i + 2)))]) hl [2, 3, 4, 0] rfl) (by rw [show (inC (outS (clr x 153) n i) i (outC (clr x 153) n i) (k + 1) : Int32) = inC (outS (clr x 153) n i) i (outC (clr x 153) n i) k from by first | rw [inC_t hsgc] | rw [inC_n (by assumption)] | rw [inC_f (by assumption)], show (nI ((k + 1) + i + 1) : Int32) = nI (k + i + 2) from congrArg nI (by omega)]))
              · refine lv_iload hx hb dX3_tallyPairs_65 (lv_at hl 0 rfl) ?_
                refine lv_sipush (v := nI 152) hx hb dX3_tallyPairs_67 (by decide) ?_
                refine lv_icmp_gt (tgt := 87) hx hb dX3_tallyPairs_70 (by decide) (fun h70_7 => ?_) (fun h70_7 => ?_)
                · refine r_iincN (k := 4) (a := k + i + 1) (d := 1) (r := k + i + 2) (lv' := [(3, .int (nI (k + i + 2))), (4, .int (sg (inS (outS (clr x 153) n i) i k) i (k + i + 1))), (0, .ref (ad 0)), (1, .int (inC (outS (clr x 153) n i) i (outC (clr x 153) n i) k)), (2, .int (nI i))]) hx hb dX3_tallyPairs_87 hl rfl (by omega) (by decide) rfl (fun ls hl => ?_)
                  refine lv_goto (tgt := 41) hx hb dX3_tallyPairs_90 (by decide) ?_
                  exact ih41 _ _ (by rw [show cF cI cA ad n (inS (outS (clr x 153) n i) i (k + 1)) = cF cI cA ad n (inS (outS (clr x 153) n i) i k) from by first | rw [inS_t hsgc] | rw [inS_f hsgc] | rw [inS_f (by assumption)] | rw [inS_n (by assumption)]]; exact hP) hS _ (lv_cast (lv_sub (l' := [(0, .ref (ad 0)), (1, .int (inC (outS (clr x 153) n i) i (outC (clr x 153) n i) k)), (2, .int (nI i)), (3, .int (nI (k + i + 2)))]) hl [2, 3, 4, 0] rfl) (by rw [show (inC (outS (clr x 153) n i) i (outC (clr x 153) n i) (k + 1) : Int32) = inC (outS (clr x 153) n i) i (outC (clr x 153) n i) k from by first | rw [inC_t hsgc] | rw [inC_n (by assumption)] | rw [inC_f (by assumption)], show (nI ((k + 1) + i + 1) : Int32) = nI (k + i + 2) from congrArg nI (by omega)]))
                · have hsgc : ¬ sg (inS (outS (clr x 153) n i) i k) i (k + i + 1) ≤ 0 ∧ ¬ nI 152 < sg (inS (outS (clr x 153) n i) i k) i (k + i + 1) := ⟨by assumption, by assumption⟩
                  obtain ⟨hsg, hsl⟩ := sgN_eq hsgc.1 hsgc.2
                  refine lv_aload_n hx hb dX3_tallyPairs_73 rfl (lv_at hl 1 rfl) ?_
                  refine r_get (C := RX3) (T := TX3) (M := 4) (index := 30) (fd := "pairsOfScore") (fo := "[I") hx hb hts (by decide +kernel) hown hK hP 0 (by decide) cF_0 rfl 3 (by decide) rfl (by decide +kernel) rfl dX3_tallyPairs_74 ?_
                  refine lv_iload hx hb dX3_tallyPairs_77 (lv_at hl 0 rfl) ?_
                  refine r_topi (show sg (inS (outS (clr x 153) n i) i k) i (k + i + 1) = nI (sgN (inS (outS (clr x 153) n i) i k) i (k + i + 1)) from hsg) ?_
                  refine lv_dup2_11 hx hb dX3_tallyPairs_79 rfl rfl ?_
                  refine r_iald hx hb hK hP 12 0 (by omega) cF_12 rfl (i := sgN (inS (outS (clr x 153) n i) i k) i (k + i + 1)) (by omega) (by decide) dX3_tallyPairs_80 ?_
                  refine lv_iconst (v := nI 1) hx hb dX3_tallyPairs_81 (by decide) ?_
                  refine lv_iadd hx hb dX3_tallyPairs_82 ?_
                  refine r_iast (f' := cF cI cA ad n (up2 (inS (outS (clr x 153) n i) i k) 12 (sgN (inS (outS (clr x 153) n i) i k) i (k + i + 1)) (((inS (outS (clr x 153) n i) i k) 12 (sgN (inS (outS (clr x 153) n i) i k) i (k + i + 1))) + (nI 1)))) hx hb hK hP hD hS 12 0 (by omega) cF_12 rfl (i := sgN (inS (outS (clr x 153) n i) i k) i (k + i + 1)) (by omega) (by decide) cF_up12 dX3_tallyPairs_83 (fun H locs hP hS => ?_)
                  refine lv_iinc (k := 2) (v := (inC (outS (clr x 153) n i) i (outC (clr x 153) n i) k) + nI 1) (lv' := [(1, .int ((inC (outS (clr x 153) n i) i (outC (clr x 153) n i) k) + nI 1)), (4, .int (sg (inS (outS (clr x 153) n i) i k) i (k + i + 1))), (0, .ref (ad 0)), (2, .int (nI i)), (3, .int (nI (k + i + 1)))]) hx hb dX3_tallyPairs_84 hl rfl (by rfl) (by decide) rfl (fun ls hl => ?_)
                  refine r_iincN (k := 4) (a := k + i + 1) (d := 1) (r := k + i + 2) (lv' := [(3, .int (nI (k + i + 2))), (1, .int ((inC (outS (clr x 153) n i) i (outC (clr x 153) n i) k) + nI 1)), (4, .int (sg (inS (outS (clr x 153) n i) i k) i (k + i + 1))), (0, .ref (ad 0)), (2, .int (nI i))]) hx hb dX3_tallyPairs_87 hl rfl (by omega) (by decide) rfl (fun ls hl => ?_)
                  refine lv_goto (tgt := 41) hx hb dX3_tallyPairs_90 (by decide) ?_
                  exact ih41 _ _ (by rw [show cF cI cA ad n (inS (outS (clr x 153) n i) i (k + 1)) = cF cI cA ad n (up2 (inS (outS (clr x 153) n i) i k) 12 (sgN (inS (outS (clr x 153) n i) i k) i (k + i + 1)) (((inS (outS (clr x 153) n i) i k) 12 (sgN (inS (outS (clr x 153) n i) i k) i (k + i + 1))) + (nI 1))) from by first | rw [inS_t hsgc] | rw [inS_f hsgc] | rw [inS_f (by assumption)] | rw [inS_n (by assumption)]]; exact hP) hS _ (lv_cast (lv_sub (l' := [(0, .ref (ad 0)), (1, .int ((inC (outS (clr x 153) n i) i (outC (clr x 153) n i) k) + nI 1)), (2, .int (nI i)), (3, .int (nI (k + i + 2)))]) hl [3, 1, 4, 0] rfl) (by rw [show (inC (outS (clr x 153) n i) i (outC (clr x 153) n i) (k + 1) : Int32) = (inC (outS (clr x 153) n i) i (outC (clr x 153) n i) k) + nI 1 from by first | rw [inC_t hsgc] | rw [inC_n (by assumption)] | rw [inC_f (by assumption)], show (nI ((k + 1) + i + 1) : Int32) = nI (k + i + 2) from congrArg nI (by omega)]))
          exact hL41 0 (Nat.zero_le _) _ _ (by rw [show cF cI cA ad n (inS (outS (clr x 153) n i) i 0) = cF cI cA ad n (outS (clr x 153) n i) from rfl]; exact hP) hS _ (lv_cast (lv_sub (l' := [(0, .ref (ad 0)), (1, .int (outC (clr x 153) n i)), (2, .int (nI i)), (3, .int (nI (i + 1)))]) hl [1, 2, 3, 0] rfl) (by rw [show (inC (outS (clr x 153) n i) i (outC (clr x 153) n i) 0 : Int32) = outC (clr x 153) n i from rfl, show (nI (0 + i + 1) : Int32) = nI (i + 1) from congrArg nI (by omega)]))
      exact hL26 0 (Nat.zero_le _) _ _ (by rw [show cF cI cA ad n (outS (clr x 153) n 0) = cF cI cA ad n (clr x 153) from rfl]; exact hP) hS _ (lv_cast (lv_sub (l' := [(0, .ref (ad 0)), (1, .int (nI 0)), (2, .int (nI 0))]) hl [2, 1, 0] rfl) (by rw [show (outC (clr x 153) n 0 : Int32) = nI 0 from rfl]))
    · intro a hi2 ih2 H locs hP hS ls hl
      refine lv_iload_n hx hb dX3_tallyPairs_2 rfl (lv_at hl 1 rfl) ?_
      refine lv_sipush (v := nI 152) hx hb dX3_tallyPairs_3 (by decide) ?_
      refine r_cgtN (a := a) (b := 152) (tgt := 22) hx hb (by omega) (by omega) dX3_tallyPairs_6 (by decide) (fun h => absurd h (by omega)) (fun _ => ?_)
      refine lv_aload_n hx hb dX3_tallyPairs_9 rfl (lv_at hl 0 rfl) ?_
      refine r_get (C := RX3) (T := TX3) (M := 4) (index := 30) (fd := "pairsOfScore") (fo := "[I") hx hb hts (by decide +kernel) hown hK hP 0 (by decide) cF_0 rfl 3 (by decide) rfl (by decide +kernel) rfl dX3_tallyPairs_10 ?_
      refine lv_iload_n hx hb dX3_tallyPairs_13 rfl (lv_at hl 1 rfl) ?_
      refine lv_iconst (v := nI 0) hx hb dX3_tallyPairs_14 (by decide) ?_
      refine r_iast (f' := cF cI cA ad n (up2 (clr x a) 12 a (nI 0))) hx hb hK hP hD hS 12 0 (by omega) cF_12 rfl (i := a) (by omega) (by decide) cF_up12 dX3_tallyPairs_15 (fun H locs hP hS => ?_)
      refine r_iincN (k := 1) (a := a) (d := 1) (r := a + 1) (lv' := [(1, .int (nI (a + 1))), (0, .ref (ad 0))]) hx hb dX3_tallyPairs_16 hl rfl (by omega) (by decide) rfl (fun ls hl => ?_)
      refine lv_goto (tgt := 2) hx hb dX3_tallyPairs_19 (by decide) ?_
      exact ih2 _ _ (by rw [show cF cI cA ad n (clr x (a + 1)) = cF cI cA ad n (up2 (clr x a) 12 a (nI 0)) from rfl]; exact hP) hS _ (lv_sub hl [1, 0] rfl)
  exact hL2 0 (Nat.zero_le _) _ _ (by rw [show cF cI cA ad n (clr x 0) = cF cI cA ad n x from rfl]; exact hP) hS _ (lv_sub hl [1, 0] rfl)
set_option maxHeartbeats 4000000 in
set_option maxRecDepth 100000 in
theorem c_X3_pairOfScore (l : Launch) (D : va_G) (cI : ClassId) (cA : ClassId) (ad : Nat → Nat) (n : Nat) (x : Nat → Nat → Int32) (s0 : Int32) (q : Int32) (hn : n ≤ 24) : Met l yX3_pairOfScore wsX3_pairOfScore ({ frames := 4, cells := 0, slots := 0, locals := 92 }) (va_Pc [.ref (ad 0), .int s0, .int q] (cX D cI cA ad n x)) (qR (some (.int (pO x s0 n 0 q)))) 0 0 nF := by
  refine c_ofR (cc := cX3_pairOfScore) (maxL := 6) (ret := .int) (by decide) rfl rfl (Nat.le_of_ble_eq_true rfl) ?_
  intro p e s m av below meth cd Q hx hb hF hP hK hD hT hret ls hl
  have hown : s.vm.findClass RX3 = some m.cls := hF.2.2.2.1
  have hF : CallFix p m cd cX3_pairOfScore 6 s av wsX3_pairOfScore RX3 := hF
  have hts := hF.2.2.2.2
  have hl : lv_has ls 6 [(0, .ref (ad 0)), (1, .int s0), (2, .int q)] := hl
  refine lv_iload_n hx hb dX3_pairOfScore_0 rfl (lv_at hl 2 rfl) ?_
  refine lv_istore_n (lv' := [(3, .int q), (0, .ref (ad 0)), (1, .int s0), (2, .int q)]) hx hb dX3_pairOfScore_1 rfl hl (by decide) rfl (fun ls hl => ?_)
  refine lv_iconst (v := nI 0) hx hb dX3_pairOfScore_2 (by decide) ?_
  refine lv_istore (lv' := [(4, .int (nI 0)), (3, .int q), (0, .ref (ad 0)), (1, .int s0), (2, .int q)]) hx hb dX3_pairOfScore_3 hl (by decide) rfl (fun ls hl => ?_)
  have hL5 : ∀ i : Nat, i ≤ n → ∀ r : Int32, (pO x s0 n i r = pO x s0 n 0 q) → ∀ ls : Array Slot, lv_has ls 6 [(0, .ref (ad 0)), (1, .int s0), (3, .int r), (4, .int (nI i))] → W p l e ({ frames := 4, cells := 0, slots := 0, locals := 92 }) s m av below meth cd s.heap [] 0 0 Q (F0 m 5 ls []) := by
    refine down (n) ?_ ?_
    · intro r hq ls hl
      refine lv_iload hx hb dX3_pairOfScore_5 (lv_at hl 3 rfl) ?_
      refine lv_aload_n hx hb dX3_pairOfScore_7 rfl (lv_at hl 0 rfl) ?_
      refine r_get (C := RX3) (T := TX3) (M := 4) (index := 12) (fd := "cards") (fo := "LCardMerger$Cards;") hx hb hts (by decide +kernel) hown hK hP 0 (by decide) cF_0 rfl 0 (by decide) rfl (by decide +kernel) rfl dX3_pairOfScore_8 ?_
      refine r_cnt hx hb hts (by decide +kernel) hown hK hP hT.1 dX3_pairOfScore_11 ?_
      refine r_cgeN (a := n) (b := n) (tgt := 75) hx hb (by omega) (by omega) dX3_pairOfScore_14 (by decide) (fun _ => ?_) (fun h => absurd h (by omega))
      refine lv_iconst (v := (-1)) hx hb dX3_pairOfScore_75 (by decide) ?_
      exact hret _ _ _ dX3_pairOfScore_76 (by rw [← hq, pO_end])
    · intro i hi5 ih5 r hq ls hl
      refine lv_iload hx hb dX3_pairOfScore_5 (lv_at hl 3 rfl) ?_
      refine lv_aload_n hx hb dX3_pairOfScore_7 rfl (lv_at hl 0 rfl) ?_
      refine r_get (C := RX3) (T := TX3) (M := 4) (index := 12) (fd := "cards") (fo := "LCardMerger$Cards;") hx hb hts (by decide +kernel) hown hK hP 0 (by decide) cF_0 rfl 0 (by decide) rfl (by decide +kernel) rfl dX3_pairOfScore_8 ?_
      refine r_cnt hx hb hts (by decide +kernel) hown hK hP hT.1 dX3_pairOfScore_11 ?_
      refine r_cgeN (a := i) (b := n) (tgt := 75) hx hb (by omega) (by omega) dX3_pairOfScore_14 (by decide) (fun h => absurd h (by omega)) (fun _ => ?_)
      obtain ⟨w, hw⟩ : ∃ w, n = i + 1 + w := ⟨n - (i + 1), by omega⟩
      refine lv_iload hx hb dX3_pairOfScore_17 (lv_at hl 3 rfl) ?_
      refine lv_iconst (v := nI 1) hx hb dX3_pairOfScore_19 (by decide) ?_
      refine r_addN (a := i) (b := 1) (r := i + 1) hx hb dX3_pairOfScore_20 (by omega) ?_
      refine lv_istore (lv' := [(5, .int (nI (i + 1))), (0, .ref (ad 0)), (1, .int s0), (3, .int r), (4, .int (nI i))]) hx hb dX3_pairOfScore_21 hl (by decide) rfl (fun ls hl => ?_)
      have hL23 : ∀ k : Nat, k ≤ w → ∀ r : Int32, (pI x s0 n i k r = pO x s0 n 0 q) → ∀ ls : Array Slot, lv_has ls 6 [(0, .ref (ad 0)), (1, .int s0), (3, .int r), (4, .int (nI i)), (5, .int (nI (k + i + 1)))] → W p l e ({ frames := 4, cells := 0, slots := 0, locals := 92 }) s m av below meth cd s.heap [] 0 0 Q (F0 m 23 ls []) := by
        refine down (w) ?_ ?_
        · intro r hq ls hl
          refine lv_iload hx hb dX3_pairOfScore_23 (lv_at hl 4 rfl) ?_
          refine lv_aload_n hx hb dX3_pairOfScore_25 rfl (lv_at hl 0 rfl) ?_
          refine r_get (C := RX3) (T := TX3) (M := 4) (index := 12) (fd := "cards") (fo := "LCardMerger$Cards;") hx hb hts (by decide +kernel) hown hK hP 0 (by decide) cF_0 rfl 0 (by decide) rfl (by decide +kernel) rfl dX3_pairOfScore_26 ?_
          refine r_cnt hx hb hts (by decide +kernel) hown hK hP hT.1 dX3_pairOfScore_29 ?_
          refine r_cgeN (a := w + i + 1) (b := n) (tgt := 69) hx hb (by omega) (by omega) dX3_pairOfScore_32 (by decide) (fun _ => ?_) (fun h => absurd h (by omega))
          refine r_iincN (k := 3) (a := i) (d := 1) (r := i + 1) (lv' := [(4, .int (nI (i + 1))), (0, .ref (ad 0)), (1, .int s0), (3, .int r), (5, .int (nI (w + i + 1)))]) hx hb dX3_pairOfScore_69 hl rfl (by omega) (by decide) rfl (fun ls hl => ?_)
          refine lv_goto (tgt := 5) hx hb dX3_pairOfScore_72 (by decide) ?_
          exact ih5 r (by rw [← pI_end hw]; exact hq) _ (lv_sub hl [1, 2, 3, 0] rfl)
        · intro k hi23 ih23 r hq ls hl
          refine lv_iload hx hb dX3_pairOfScore_23 (lv_at hl 4 rfl) ?_
          refine lv_aload_n hx hb dX3_pairOfScore_25 rfl (lv_at hl 0 rfl) ?_
          refine r_get (C := RX3) (T := TX3) (M := 4) (index := 12) (fd := "cards") (fo := "LCardMerger$Cards;") hx hb hts (by decide +kernel) hown hK hP 0 (by decide) cF_0 rfl 0 (by decide) rfl (by decide +kernel) rfl dX3_pairOfScore_26 ?_
          refine r_cnt hx hb hts (by decide +kernel) hown hK hP hT.1 dX3_pairOfScore_29 ?_
          refine r_cgeN (a := k + i + 1) (b := n) (tgt := 69) hx hb (by omega) (by omega) dX3_pairOfScore_32 (by decide) (fun h => absurd h (by omega)) (fun _ => ?_)
          refine lv_aload_n hx hb dX3_pairOfScore_35 rfl (lv_at hl 0 rfl) ?_
          refine lv_iload hx hb dX3_pairOfScore_36 (lv_at hl 3 rfl) ?_
          refine lv_iload hx hb dX3_pairOfScore_38 (lv_at hl 4 rfl) ?_
          refine k_Ri (va_runV (As := [.int (nI i), .int (nI (k + i + 1))]) (rest := []) hF (c_X3_suggestedScore l D cI cA ad n x i (k + i + 1) (by omega) (by omega)) (cwV 2 hts gX3_pairOfScore_X3_suggestedScore rfl rfl rfl (by decide +kernel) ⟨(Nat.le_of_ble_eq_true rfl), (Nat.le_of_ble_eq_true rfl)⟩) (k_pre hP hK hD hT (k := 0) (by decide) cF_0 rfl) rfl rfl hl.1 rfl (lv_room (Nat.le_of_ble_eq_true rfl)) dX3_pairOfScore_40 ⟨Nat.zero_le _, Nat.zero_le _⟩) ?_
          refine lv_iload_n hx hb dX3_pairOfScore_43 rfl (lv_at hl 1 rfl) ?_
          refine lv_icmp_ne (tgt := 63) hx hb dX3_pairOfScore_44 (by decide) (fun h44_5 => ?_) (fun h44_5 => ?_)
          · refine r_iincN (k := 4) (a := k + i + 1) (d := 1) (r := k + i + 2) (lv' := [(5, .int (nI (k + i + 2))), (0, .ref (ad 0)), (1, .int s0), (3, .int r), (4, .int (nI i))]) hx hb dX3_pairOfScore_63 hl rfl (by omega) (by decide) rfl (fun ls hl => ?_)
            refine lv_goto (tgt := 23) hx hb dX3_pairOfScore_66 (by decide) ?_
            exact ih23 r (by first | (rw [← pI_go hw hi23 (by assumption) (by assumption)]; exact hq) | (rw [← pI_miss hw hi23 (by assumption)]; exact hq)) _ (lv_cast (lv_sub (l' := [(0, .ref (ad 0)), (1, .int s0), (3, .int r), (4, .int (nI i)), (5, .int (nI (k + i + 2)))]) hl [1, 2, 3, 4, 0] rfl) (by rw [show (nI ((k + 1) + i + 1) : Int32) = nI (k + i + 2) from congrArg nI (by omega)]))
          · refine lv_iload_n hx hb dX3_pairOfScore_47 rfl (lv_at hl 2 rfl) ?_
            refine lv_if_ne (tgt := 60) hx hb dX3_pairOfScore_48 (by decide) (fun h48_6 => ?_) (fun h48_6 => ?_)
            · refine lv_iinc (k := 2) (v := r + (-1)) (lv' := [(3, .int (r + (-1))), (0, .ref (ad 0)), (1, .int s0), (4, .int (nI i)), (5, .int (nI (k + i + 1)))]) hx hb dX3_pairOfScore_60 hl rfl (by rfl) (by decide) rfl (fun ls hl => ?_)
              refine r_iincN (k := 4) (a := k + i + 1) (d := 1) (r := k + i + 2) (lv' := [(5, .int (nI (k + i + 2))), (3, .int (r + (-1))), (0, .ref (ad 0)), (1, .int s0), (4, .int (nI i))]) hx hb dX3_pairOfScore_63 hl rfl (by omega) (by decide) rfl (fun ls hl => ?_)
              refine lv_goto (tgt := 23) hx hb dX3_pairOfScore_66 (by decide) ?_
              exact ih23 (r + (-1)) (by first | (rw [← pI_go hw hi23 (by assumption) (by assumption)]; exact hq) | (rw [← pI_miss hw hi23 (by assumption)]; exact hq)) _ (lv_cast (lv_sub (l' := [(0, .ref (ad 0)), (1, .int s0), (3, .int (r + (-1))), (4, .int (nI i)), (5, .int (nI (k + i + 2)))]) hl [2, 3, 1, 4, 0] rfl) (by rw [show ((r + (-1)) : Int32) = r + (-1) from rfl, show (nI ((k + 1) + i + 1) : Int32) = nI (k + i + 2) from congrArg nI (by omega)]))
            · refine lv_bipush (v := nI 100) hx hb dX3_pairOfScore_51 (by decide) ?_
              refine lv_iload hx hb dX3_pairOfScore_53 (lv_at hl 3 rfl) ?_
              refine r_mulN (a := 100) (b := i) (r := 100 * i) hx hb dX3_pairOfScore_55 (by omega) ?_
              refine lv_iload hx hb dX3_pairOfScore_56 (lv_at hl 4 rfl) ?_
              refine r_addN (a := 100 * i) (b := k + i + 1) (r := 101 * i + k + 1) hx hb dX3_pairOfScore_58 (by omega) ?_
              exact hret _ _ _ dX3_pairOfScore_59 (by rw [← hq, pI_hit hw hi23 (by assumption) (by assumption)])
      exact hL23 0 (Nat.zero_le _) r (by rw [← pO_in hi5]; exact hq) _ (lv_cast (lv_sub (l' := [(0, .ref (ad 0)), (1, .int s0), (3, .int r), (4, .int (nI i)), (5, .int (nI (i + 1)))]) hl [1, 2, 3, 4, 0] rfl) (by rw [show (nI (0 + i + 1) : Int32) = nI (i + 1) from congrArg nI (by omega)]))
  exact hL5 0 (Nat.zero_le _) q (rfl) _ (lv_sub hl [2, 3, 1, 0] rfl)
