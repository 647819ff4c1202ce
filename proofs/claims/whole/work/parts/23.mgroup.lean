set_option maxHeartbeats 4000000 in
set_option maxRecDepth 100000 in
theorem m_sync_0 (l : Launch) (D : va_G) (cI : ClassId) (cA : ClassId) (ad : Nat → Nat) (th : Int32) (n : Nat) (y : Nat → Nat → Int32) (b : Int32) (hbk : bookB b = true) (hn : n ≤ 24) : Met l yX4_sync wsX4_sync ({ frames := 2, cells := 0, slots := 0, locals := 46 }) (va_Pc [.ref (ad 0), .int b] (mX D cI cA ad th n y)) (qW D ad (mF cI ad (nI 0) n (msyS y n b n)) 8 (some (.int (msyC y n b n)))) 0 0 (wA ad 8) := by
  refine c_ofW (cc := cX4_sync) (maxL := 8) (ret := .int) (by decide) rfl rfl (Nat.le_of_ble_eq_true rfl) ?_
  intro p e s m av below meth cd Q hx hb hF hP hK hD hT hret ls hl
  have hown : s.vm.findClass RX4 = some m.cls := hF.2.2.2.1
  have hF : CallFix p m cd cX4_sync 8 s av wsX4_sync RX4 := hF
  have hts := hF.2.2.2.2
  have hl : lv_has ls 8 [(0, .ref (ad 0)), (1, .int b)] := hl
  obtain ⟨H, eH⟩ : ∃ H9 : Heap, H9 = s.heap := ⟨_, rfl⟩
  obtain ⟨locs, eL⟩ : ∃ L9 : List Loc, L9 = [] := ⟨_, rfl⟩
  have hS : sS (wA ad 8) s.heap H locs := by rw [eH, eL]; exact sS.rf
  rw [← eH] at hP
  suffices hgo : W p l e ({ frames := 2, cells := 0, slots := 0, locals := 46 }) s m av below meth cd H locs 0 0 Q (F0 m 0 ls []) by rw [eH, eL] at hgo; exact hgo
  clear eH eL
  refine lv_aload_n hx hb dX4_sync_0 rfl (lv_at hl 0 rfl) ?_
  refine lv_iload_n hx hb dX4_sync_1 rfl (lv_at hl 1 rfl) ?_
  refine k_Ri (va_runS (As := [.int b]) (rest := [.ref (ad 0)]) hF (c_X4_isBook l b) (va_cwS 1 hts gX4_sync_X4_isBook rfl rfl rfl (by decide +kernel) ⟨(Nat.le_of_ble_eq_true rfl), (Nat.le_of_ble_eq_true rfl)⟩) k_preS rfl rfl hl.1 rfl (lv_room (Nat.le_of_ble_eq_true rfl)) dX4_sync_2 ⟨Nat.zero_le _, Nat.zero_le _⟩) ?_
  refine r_topi (show bI (bookB b) = bI true from congrArg bI (hbk)) ?_
  refine r_ifeqB (b := true) (tgt := 12) hx hb dX4_sync_5 (by decide) (fun h => absurd h (by decide)) (fun _ => ?_)
  refine lv_iconst (v := nI 0) hx hb dX4_sync_8 (by decide) ?_
  refine lv_goto (tgt := 13) hx hb dX4_sync_9 (by decide) ?_
  refine k_Wi (va_runV (As := [.int (nI 0)]) (rest := []) hF (c_X4_isFine_0 l D cI cA ad th n y) (cwV 1 hts gX4_sync_X4_isFine rfl rfl rfl (by decide +kernel) ⟨(Nat.le_of_ble_eq_true rfl), (Nat.le_of_ble_eq_true rfl)⟩) (k_pre hP hK hD hT (k := 0) (by decide) mF_0 rfl) rfl rfl hl.1 rfl (lv_room (Nat.le_of_ble_eq_true rfl)) dX4_sync_13 ⟨Nat.zero_le _, Nat.zero_le _⟩) hD hS (fun H locs hP hS => ?_)
  refine r_ifneB (b := true) (tgt := 21) hx hb dX4_sync_16 (by decide) (fun _ => ?_) (fun h => absurd h (by decide))
  refine lv_iconst (v := nI 0) hx hb dX4_sync_21 (by decide) ?_
  refine lv_istore_n (lv' := [(2, .int (nI 0)), (0, .ref (ad 0)), (1, .int b)]) hx hb dX4_sync_22 rfl hl (by decide) rfl (fun ls hl => ?_)
  refine lv_iconst (v := nI 0) hx hb dX4_sync_23 (by decide) ?_
  refine lv_istore_n (lv' := [(3, .int (nI 0)), (2, .int (nI 0)), (0, .ref (ad 0)), (1, .int b)]) hx hb dX4_sync_24 rfl hl (by decide) rfl (fun ls hl => ?_)
  have hL25 : ∀ i : Nat, i ≤ n → ∀ (H : Heap) (locs : List Loc), va_P D vwCl (wl ad (mF cI ad (nI 0) n (msyS y n b i)) 8) H → sS (wA ad 8) s.heap H locs → ∀ ls : Array Slot, lv_has ls 8 [(0, .ref (ad 0)), (1, .int b), (2, .int (msyC y n b i)), (3, .int (nI i))] → W p l e ({ frames := 2, cells := 0, slots := 0, locals := 46 }) s m av below meth cd H locs 0 0 Q (F0 m 25 ls []) := by
    refine down (n) ?_ ?_
    · intro H locs hP hS ls hl
      refine lv_iload_n hx hb dX4_sync_25 rfl (lv_at hl 3 rfl) ?_
      refine lv_aload_n hx hb dX4_sync_26 rfl (lv_at hl 0 rfl) ?_
      refine r_get (C := RX4) (T := TX4) (M := 9) (index := 35) (fd := "cards") (fo := "I") hx hb hts (by decide +kernel) hown hK hP 0 (by decide) mF_0 rfl 7 (by decide) rfl (by decide +kernel) rfl dX4_sync_27 ?_
      refine r_cgeN (a := n) (b := n) (tgt := 132) hx hb (by omega) (by omega) dX4_sync_30 (by decide) (fun _ => ?_) (fun h => absurd h (by omega))
      refine lv_iload_n hx hb dX4_sync_132 rfl (lv_at hl 2 rfl) ?_
      exact hret _ _ _ _ _ _ hP hS dX4_sync_133 (rfl) (rfl)
    · intro i hi25 ih25 H locs hP hS ls hl
      refine lv_iload_n hx hb dX4_sync_25 rfl (lv_at hl 3 rfl) ?_
      refine lv_aload_n hx hb dX4_sync_26 rfl (lv_at hl 0 rfl) ?_
      refine r_get (C := RX4) (T := TX4) (M := 9) (index := 35) (fd := "cards") (fo := "I") hx hb hts (by decide +kernel) hown hK hP 0 (by decide) mF_0 rfl 7 (by decide) rfl (by decide +kernel) rfl dX4_sync_27 ?_
      refine r_cgeN (a := i) (b := n) (tgt := 132) hx hb (by omega) (by omega) dX4_sync_30 (by decide) (fun h => absurd h (by omega)) (fun _ => ?_)
      refine lv_aload_n hx hb dX4_sync_33 rfl (lv_at hl 0 rfl) ?_
      refine r_get (C := RX4) (T := TX4) (M := 9) (index := 7) (fd := "book") (fo := "[I") hx hb hts (by decide +kernel) hown hK hP 0 (by decide) mF_0 rfl 1 (by decide) rfl (by decide +kernel) rfl dX4_sync_34 ?_
      refine lv_iload_n hx hb dX4_sync_37 rfl (lv_at hl 3 rfl) ?_
      refine r_iald hx hb hK hP 1 0 (by omega) (mF_a 1 (by omega)) rfl (i := i) (by omega) (by decide) dX4_sync_38 ?_
      refine lv_iload_n hx hb dX4_sync_39 rfl (lv_at hl 1 rfl) ?_
      refine lv_icmp_ne (tgt := 126) hx hb dX4_sync_40 (by decide) (fun h40_5 => ?_) (fun h40_5 => ?_)
      · refine r_iincN (k := 3) (a := i) (d := 1) (r := i + 1) (lv' := [(3, .int (nI (i + 1))), (0, .ref (ad 0)), (1, .int b), (2, .int (msyC y n b i))]) hx hb dX4_sync_126 hl rfl (by omega) (by decide) rfl (fun ls hl => ?_)
        refine lv_goto (tgt := 25) hx hb dX4_sync_129 (by decide) ?_
        exact ih25 _ _ (by rw [show mF cI ad (nI 0) n (msyS y n b (i + 1)) = mF cI ad (nI 0) n (msyS y n b i) from by first | (rw [msyS, if_pos (by assumption)]; rfl) | rw [msyS, if_neg (by assumption)]]; exact hP) hS _ (lv_cast (lv_sub (l' := [(0, .ref (ad 0)), (1, .int b), (2, .int (msyC y n b i)), (3, .int (nI (i + 1)))]) hl [1, 2, 3, 0] rfl) (by rw [show (msyC y n b (i + 1) : Int32) = msyC y n b i from by simp [msyC, h40_5]]))
      · refine lv_iload_n hx hb dX4_sync_43 rfl (lv_at hl 2 rfl) ?_
        refine lv_aload_n hx hb dX4_sync_44 rfl (lv_at hl 0 rfl) ?_
        refine lv_iload_n hx hb dX4_sync_45 rfl (lv_at hl 3 rfl) ?_
        refine k_Ri (va_runV (As := [.int (nI i)]) (rest := [.int (msyC y n b i)]) hF (c_X4_clashes l D cI cA ad (nI 0) n (msyS y n b i) i (by omega)) (cwV 1 hts gX4_sync_X4_clashes rfl rfl rfl (by decide +kernel) ⟨(Nat.le_of_ble_eq_true rfl), (Nat.le_of_ble_eq_true rfl)⟩) (k_pre hP hK hD hT (k := 0) (by decide) mF_0 rfl) rfl rfl hl.1 rfl (lv_room (Nat.le_of_ble_eq_true rfl)) dX4_sync_46 ⟨Nat.zero_le _, Nat.zero_le _⟩) ?_
        refine r_ifeqB (b := mcl (msyS y n b i) i) (tgt := 56) hx hb dX4_sync_49 (by decide) (fun h49_6 => ?_) (fun h49_6 => ?_)
        · refine lv_iconst (v := nI 0) hx hb dX4_sync_56 (by decide) ?_
          refine lv_iadd hx hb dX4_sync_57 ?_
          refine lv_istore_n (lv' := [(2, .int ((msyC y n b i) + (nI 0))), (0, .ref (ad 0)), (1, .int b), (3, .int (nI i))]) hx hb dX4_sync_58 rfl hl (by decide) rfl (fun ls hl => ?_)
          refine lv_aload_n hx hb dX4_sync_59 rfl (lv_at hl 1 rfl) ?_
          refine lv_iload_n hx hb dX4_sync_60 rfl (lv_at hl 3 rfl) ?_
          refine lv_iconst (v := nI 0) hx hb dX4_sync_61 (by decide) ?_
          refine k_Ri (va_runV (As := [.int (nI i), .int (nI 0)]) (rest := []) hF (c_X4_mergedOf l D cI cA ad (nI 0) n (msyS y n b i) i 0 (by omega) (by omega)) (cwV 2 hts gX4_sync_X4_mergedOf rfl rfl rfl (by decide +kernel) ⟨(Nat.le_of_ble_eq_true rfl), (Nat.le_of_ble_eq_true rfl)⟩) (k_pre hP hK hD hT (k := 0) (by decide) mF_0 rfl) rfl rfl hl.1 rfl (lv_room (Nat.le_of_ble_eq_true rfl)) dX4_sync_62 ⟨Nat.zero_le _, Nat.zero_le _⟩) ?_
          refine lv_istore (lv' := [(4, .int (mSt (msyS y n b i) i 0)), (2, .int ((msyC y n b i) + (nI 0))), (0, .ref (ad 0)), (1, .int b), (3, .int (nI i))]) hx hb dX4_sync_65 hl (by decide) rfl (fun ls hl => ?_)
          refine lv_aload_n hx hb dX4_sync_67 rfl (lv_at hl 2 rfl) ?_
          refine lv_iload_n hx hb dX4_sync_68 rfl (lv_at hl 4 rfl) ?_
          refine lv_iconst (v := nI 1) hx hb dX4_sync_69 (by decide) ?_
          refine k_Ri (va_runV (As := [.int (nI i), .int (nI 1)]) (rest := []) hF (c_X4_mergedOf l D cI cA ad (nI 0) n (msyS y n b i) i 1 (by omega) (by omega)) (cwV 2 hts gX4_sync_X4_mergedOf rfl rfl rfl (by decide +kernel) ⟨(Nat.le_of_ble_eq_true rfl), (Nat.le_of_ble_eq_true rfl)⟩) (k_pre hP hK hD hT (k := 0) (by decide) mF_0 rfl) rfl rfl hl.1 rfl (lv_room (Nat.le_of_ble_eq_true rfl)) dX4_sync_70 ⟨Nat.zero_le _, Nat.zero_le _⟩) ?_
          refine lv_istore (lv' := [(5, .int (mSt (msyS y n b i) i 1)), (4, .int (mSt (msyS y n b i) i 0)), (2, .int ((msyC y n b i) + (nI 0))), (0, .ref (ad 0)), (1, .int b), (3, .int (nI i))]) hx hb dX4_sync_73 hl (by decide) rfl (fun ls hl => ?_)
          refine lv_aload_n hx hb dX4_sync_75 rfl (lv_at hl 3 rfl) ?_
          refine lv_iload_n hx hb dX4_sync_76 rfl (lv_at hl 5 rfl) ?_
          refine k_Ri (va_runV (As := [.int (nI i)]) (rest := []) hF (c_X4_mergedName l D cI cA ad (nI 0) n (msyS y n b i) i (by omega)) (cwV 1 hts gX4_sync_X4_mergedName rfl rfl rfl (by decide +kernel) ⟨(Nat.le_of_ble_eq_true rfl), (Nat.le_of_ble_eq_true rfl)⟩) (k_pre hP hK hD hT (k := 0) (by decide) mF_0 rfl) rfl rfl hl.1 rfl (lv_room (Nat.le_of_ble_eq_true rfl)) dX4_sync_77 ⟨Nat.zero_le _, Nat.zero_le _⟩) ?_
          refine lv_istore (lv' := [(6, .int (mNm (msyS y n b i) i)), (5, .int (mSt (msyS y n b i) i 1)), (4, .int (mSt (msyS y n b i) i 0)), (2, .int ((msyC y n b i) + (nI 0))), (0, .ref (ad 0)), (1, .int b), (3, .int (nI i))]) hx hb dX4_sync_80 hl (by decide) rfl (fun ls hl => ?_)
          refine lv_iconst (v := nI 0) hx hb dX4_sync_82 (by decide) ?_
          refine lv_istore (lv' := [(7, .int (nI 0)), (6, .int (mNm (msyS y n b i) i)), (5, .int (mSt (msyS y n b i) i 1)), (4, .int (mSt (msyS y n b i) i 0)), (2, .int ((msyC y n b i) + (nI 0))), (0, .ref (ad 0)), (1, .int b), (3, .int (nI i))]) hx hb dX4_sync_83 hl (by decide) rfl (fun ls hl => ?_)
          refine lv_iload hx hb dX4_sync_85 (lv_at hl 0 rfl) ?_
          refine lv_iconst (v := nI 3) hx hb dX4_sync_87 (by decide) ?_
          refine r_cgeN (a := 0) (b := 3) (tgt := 126) hx hb (by omega) (by omega) dX4_sync_88 (by decide) (fun h => absurd h (by omega)) (fun _ => ?_)
          refine lv_aload_n hx hb dX4_sync_91 rfl (lv_at hl 5 rfl) ?_
          refine lv_iload_n hx hb dX4_sync_92 rfl (lv_at hl 7 rfl) ?_
          refine lv_iload hx hb dX4_sync_93 (lv_at hl 0 rfl) ?_
          refine lv_iconst (v := nI 0) hx hb dX4_sync_95 (by decide) ?_
          refine lv_iload hx hb dX4_sync_96 (lv_at hl 3 rfl) ?_
          refine k_Wv (va_runV (As := [.int (nI i), .int (nI 0), .int (nI 0), .int (mSt (msyS y n b i) i 0)]) (rest := []) hF (c_X4_sets l D cI cA ad (nI 0) n (msyS y n b i) i 0 0 (mSt (msyS y n b i) i 0) (by omega) (by omega) (by omega) hn) (cwV 4 hts gX4_sync_X4_sets rfl rfl rfl (by decide +kernel) ⟨(Nat.le_of_ble_eq_true rfl), (Nat.le_of_ble_eq_true rfl)⟩) (k_pre hP hK hD hT (k := 0) (by decide) mF_0 rfl) rfl rfl hl.1 rfl (lv_room (Nat.le_of_ble_eq_true rfl)) dX4_sync_98 ⟨Nat.zero_le _, Nat.zero_le _⟩) hD hS (fun H locs hP hS => ?_)
          refine lv_aload_n hx hb dX4_sync_101 rfl (lv_at hl 5 rfl) ?_
          refine lv_iload_n hx hb dX4_sync_102 rfl (lv_at hl 7 rfl) ?_
          refine lv_iload hx hb dX4_sync_103 (lv_at hl 0 rfl) ?_
          refine lv_iconst (v := nI 1) hx hb dX4_sync_105 (by decide) ?_
          refine lv_iload hx hb dX4_sync_106 (lv_at hl 2 rfl) ?_
          refine k_Wv (va_runV (As := [.int (nI i), .int (nI 0), .int (nI 1), .int (mSt (msyS y n b i) i 1)]) (rest := []) hF (c_X4_sets l D cI cA ad ((nI 0)) n (mputS (msyS y n b i) n i 0 0 (mSt (msyS y n b i) i 0)) i 0 1 (mSt (msyS y n b i) i 1) (by omega) (by omega) (by omega) hn) (cwV 4 hts gX4_sync_X4_sets rfl rfl rfl (by decide +kernel) ⟨(Nat.le_of_ble_eq_true rfl), (Nat.le_of_ble_eq_true rfl)⟩) (k_pre hP hK hD hT (k := 0) (by decide) mF_0 rfl) rfl rfl hl.1 rfl (lv_room (Nat.le_of_ble_eq_true rfl)) dX4_sync_108 ⟨Nat.zero_le _, Nat.zero_le _⟩) hD hS (fun H locs hP hS => ?_)
          refine lv_aload_n hx hb dX4_sync_111 rfl (lv_at hl 5 rfl) ?_
          refine lv_iload_n hx hb dX4_sync_112 rfl (lv_at hl 7 rfl) ?_
          refine lv_iload hx hb dX4_sync_113 (lv_at hl 0 rfl) ?_
          refine lv_iload hx hb dX4_sync_115 (lv_at hl 1 rfl) ?_
          refine k_Wv (va_runV (As := [.int (nI i), .int (nI 0), .int (mNm (msyS y n b i) i)]) (rest := []) hF (c_X4_names l D cI cA ad (((nI 0))) n (mputS (mputS (msyS y n b i) n i 0 0 (mSt (msyS y n b i) i 0)) n i 0 1 (mSt (msyS y n b i) i 1)) i 0 (mNm (msyS y n b i) i) (by omega) (by omega) hn) (cwV 3 hts gX4_sync_X4_names rfl rfl rfl (by decide +kernel) ⟨(Nat.le_of_ble_eq_true rfl), (Nat.le_of_ble_eq_true rfl)⟩) (k_pre hP hK hD hT (k := 0) (by decide) mF_0 rfl) rfl rfl hl.1 rfl (lv_room (Nat.le_of_ble_eq_true rfl)) dX4_sync_117 ⟨Nat.zero_le _, Nat.zero_le _⟩) hD hS (fun H locs hP hS => ?_)
          refine r_iincN (k := 0) (a := 0) (d := 1) (r := 1) (lv' := [(7, .int (nI 1)), (6, .int (mNm (msyS y n b i) i)), (5, .int (mSt (msyS y n b i) i 1)), (4, .int (mSt (msyS y n b i) i 0)), (2, .int ((msyC y n b i) + (nI 0))), (0, .ref (ad 0)), (1, .int b), (3, .int (nI i))]) hx hb dX4_sync_120 hl rfl (by omega) (by decide) rfl (fun ls hl => ?_)
          refine lv_goto (tgt := 85) hx hb dX4_sync_123 (by decide) ?_
          refine lv_iload hx hb dX4_sync_85 (lv_at hl 0 rfl) ?_
          refine lv_iconst (v := nI 3) hx hb dX4_sync_87 (by decide) ?_
          refine r_cgeN (a := 1) (b := 3) (tgt := 126) hx hb (by omega) (by omega) dX4_sync_88 (by decide) (fun h => absurd h (by omega)) (fun _ => ?_)
          refine lv_aload_n hx hb dX4_sync_91 rfl (lv_at hl 5 rfl) ?_
          refine lv_iload_n hx hb dX4_sync_92 rfl (lv_at hl 7 rfl) ?_
          refine lv_iload hx hb dX4_sync_93 (lv_at hl 0 rfl) ?_
          refine lv_iconst (v := nI 0) hx hb dX4_sync_95 (by decide) ?_
          refine lv_iload hx hb dX4_sync_96 (lv_at hl 3 rfl) ?_
          refine k_Wv (va_runV (As := [.int (nI i), .int (nI 1), .int (nI 0), .int (mSt (msyS y n b i) i 0)]) (rest := []) hF (c_X4_sets l D cI cA ad ((((nI 0)))) n (mputN (mputS (mputS (msyS y n b i) n i 0 0 (mSt (msyS y n b i) i 0)) n i 0 1 (mSt (msyS y n b i) i 1)) n i 0 (mNm (msyS y n b i) i)) i 1 0 (mSt (msyS y n b i) i 0) (by omega) (by omega) (by omega) hn) (cwV 4 hts gX4_sync_X4_sets rfl rfl rfl (by decide +kernel) ⟨(Nat.le_of_ble_eq_true rfl), (Nat.le_of_ble_eq_true rfl)⟩) (k_pre hP hK hD hT (k := 0) (by decide) mF_0 rfl) rfl rfl hl.1 rfl (lv_room (Nat.le_of_ble_eq_true rfl)) dX4_sync_98 ⟨Nat.zero_le _, Nat.zero_le _⟩) hD hS (fun H locs hP hS => ?_)
          refine lv_aload_n hx hb dX4_sync_101 rfl (lv_at hl 5 rfl) ?_
          refine lv_iload_n hx hb dX4_sync_102 rfl (lv_at hl 7 rfl) ?_
          refine lv_iload hx hb dX4_sync_103 (lv_at hl 0 rfl) ?_
          refine lv_iconst (v := nI 1) hx hb dX4_sync_105 (by decide) ?_
          refine lv_iload hx hb dX4_sync_106 (lv_at hl 2 rfl) ?_
          refine k_Wv (va_runV (As := [.int (nI i), .int (nI 1), .int (nI 1), .int (mSt (msyS y n b i) i 1)]) (rest := []) hF (c_X4_sets l D cI cA ad (((((nI 0))))) n (mputS (mputN (mputS (mputS (msyS y n b i) n i 0 0 (mSt (msyS y n b i) i 0)) n i 0 1 (mSt (msyS y n b i) i 1)) n i 0 (mNm (msyS y n b i) i)) n i 1 0 (mSt (msyS y n b i) i 0)) i 1 1 (mSt (msyS y n b i) i 1) (by omega) (by omega) (by omega) hn) (cwV 4 hts gX4_sync_X4_sets rfl rfl rfl (by decide +kernel) ⟨(Nat.le_of_ble_eq_true rfl), (Nat.le_of_ble_eq_true rfl)⟩) (k_pre hP hK hD hT (k := 0) (by decide) mF_0 rfl) rfl rfl hl.1 rfl (lv_room (Nat.le_of_ble_eq_true rfl)) dX4_sync_108 ⟨Nat.zero_le _, Nat.zero_le _⟩) hD hS (fun H locs hP hS => ?_)
          refine lv_aload_n hx hb dX4_sync_111 rfl (lv_at hl 5 rfl) ?_
          refine lv_iload_n hx hb dX4_sync_112 rfl (lv_at hl 7 rfl) ?_
          refine lv_iload hx hb dX4_sync_113 (lv_at hl 0 rfl) ?_
          refine lv_iload hx hb dX4_sync_115 (lv_at hl 1 rfl) ?_
          refine k_Wv (va_runV (As := [.int (nI i), .int (nI 1), .int (mNm (msyS y n b i) i)]) (rest := []) hF (c_X4_names l D cI cA ad ((((((nI 0)))))) n (mputS (mputS (mputN (mputS (mputS (msyS y n b i) n i 0 0 (mSt (msyS y n b i) i 0)) n i 0 1 (mSt (msyS y n b i) i 1)) n i 0 (mNm (msyS y n b i) i)) n i 1 0 (mSt (msyS y n b i) i 0)) n i 1 1 (mSt (msyS y n b i) i 1)) i 1 (mNm (msyS y n b i) i) (by omega) (by omega) hn) (cwV 3 hts gX4_sync_X4_names rfl rfl rfl (by decide +kernel) ⟨(Nat.le_of_ble_eq_true rfl), (Nat.le_of_ble_eq_true rfl)⟩) (k_pre hP hK hD hT (k := 0) (by decide) mF_0 rfl) rfl rfl hl.1 rfl (lv_room (Nat.le_of_ble_eq_true rfl)) dX4_sync_117 ⟨Nat.zero_le _, Nat.zero_le _⟩) hD hS (fun H locs hP hS => ?_)
          refine r_iincN (k := 0) (a := 1) (d := 1) (r := 2) (lv' := [(7, .int (nI 2)), (6, .int (mNm (msyS y n b i) i)), (5, .int (mSt (msyS y n b i) i 1)), (4, .int (mSt (msyS y n b i) i 0)), (2, .int ((msyC y n b i) + (nI 0))), (0, .ref (ad 0)), (1, .int b), (3, .int (nI i))]) hx hb dX4_sync_120 hl rfl (by omega) (by decide) rfl (fun ls hl => ?_)
          refine lv_goto (tgt := 85) hx hb dX4_sync_123 (by decide) ?_
          refine lv_iload hx hb dX4_sync_85 (lv_at hl 0 rfl) ?_
          refine lv_iconst (v := nI 3) hx hb dX4_sync_87 (by decide) ?_
          refine r_cgeN (a := 2) (b := 3) (tgt := 126) hx hb (by omega) (by omega) dX4_sync_88 (by decide) (fun h => absurd h (by omega)) (fun _ => ?_)
          refine lv_aload_n hx hb dX4_sync_91 rfl (lv_at hl 5 rfl) ?_
          refine lv_iload_n hx hb dX4_sync_92 rfl (lv_at hl 7 rfl) ?_
          refine lv_iload hx hb dX4_sync_93 (lv_at hl 0 rfl) ?_
          refine lv_iconst (v := nI 0) hx hb dX4_sync_95 (by decide) ?_
          refine lv_iload hx hb dX4_sync_96 (lv_at hl 3 rfl) ?_
          refine k_Wv (va_runV (As := [.int (nI i), .int (nI 2), .int (nI 0), .int (mSt (msyS y n b i) i 0)]) (rest := []) hF (c_X4_sets l D cI cA ad (((((((nI 0))))))) n (mputN (mputS (mputS (mputN (mputS (mputS (msyS y n b i) n i 0 0 (mSt (msyS y n b i) i 0)) n i 0 1 (mSt (msyS y n b i) i 1)) n i 0 (mNm (msyS y n b i) i)) n i 1 0 (mSt (msyS y n b i) i 0)) n i 1 1 (mSt (msyS y n b i) i 1)) n i 1 (mNm (msyS y n b i) i)) i 2 0 (mSt (msyS y n b i) i 0) (by omega) (by omega) (by omega) hn) (cwV 4 hts gX4_sync_X4_sets rfl rfl rfl (by decide +kernel) ⟨(Nat.le_of_ble_eq_true rfl), (Nat.le_of_ble_eq_true rfl)⟩) (k_pre hP hK hD hT (k := 0) (by decide) mF_0 rfl) rfl rfl hl.1 rfl (lv_room (Nat.le_of_ble_eq_true rfl)) dX4_sync_98 ⟨Nat.zero_le _, Nat.zero_le _⟩) hD hS (fun H locs hP hS => ?_)
          refine lv_aload_n hx hb dX4_sync_101 rfl (lv_at hl 5 rfl) ?_
          refine lv_iload_n hx hb dX4_sync_102 rfl (lv_at hl 7 rfl) ?_
          refine lv_iload hx hb dX4_sync_103 (lv_at hl 0 rfl) ?_
          refine lv_iconst (v := nI 1) hx hb dX4_sync_105 (by decide) ?_
          refine lv_iload hx hb dX4_sync_106 (lv_at hl 2 rfl) ?_
          refine k_Wv (va_runV (As := [.int (nI i), .int (nI 2), .int (nI 1), .int (mSt (msyS y n b i) i 1)]) (rest := []) hF (c_X4_sets l D cI cA ad ((((((((nI 0)))))))) n (mputS (mputN (mputS (mputS (mputN (mputS (mputS (msyS y n b i) n i 0 0 (mSt (msyS y n b i) i 0)) n i 0 1 (mSt (msyS y n b i) i 1)) n i 0 (mNm (msyS y n b i) i)) n i 1 0 (mSt (msyS y n b i) i 0)) n i 1 1 (mSt (msyS y n b i) i 1)) n i 1 (mNm (msyS y n b i) i)) n i 2 0 (mSt (msyS y n b i) i 0)) i 2 1 (mSt (msyS y n b i) i 1) (by omega) (by omega) (by omega) hn) (cwV 4 hts gX4_sync_X4_sets rfl rfl rfl (by decide +kernel) ⟨(Nat.le_of_ble_eq_true rfl), (Nat.le_of_ble_eq_true rfl)⟩) (k_pre hP hK hD hT (k := 0) (by decide) mF_0 rfl) rfl rfl hl.1 rfl (lv_room (Nat.le_of_ble_eq_true rfl)) dX4_sync_108 ⟨Nat.zero_le _, Nat.zero_le _⟩) hD hS (fun H locs hP hS => ?_)
          refine lv_aload_n hx hb dX4_sync_111 rfl (lv_at hl 5 rfl) ?_
          refine lv_iload_n hx hb dX4_sync_112 rfl (lv_at hl 7 rfl) ?_
          refine lv_iload hx hb dX4_sync_113 (lv_at hl 0 rfl) ?_
          refine lv_iload hx hb dX4_sync_115 (lv_at hl 1 rfl) ?_
          refine k_Wv (va_runV (As := [.int (nI i), .int (nI 2), .int (mNm (msyS y n b i) i)]) (rest := []) hF (c_X4_names l D cI cA ad (((((((((nI 0))))))))) n (mputS (mputS (mputN (mputS (mputS (mputN (mputS (mputS (msyS y n b i) n i 0 0 (mSt (msyS y n b i) i 0)) n i 0 1 (mSt (msyS y n b i) i 1)) n i 0 (mNm (msyS y n b i) i)) n i 1 0 (mSt (msyS y n b i) i 0)) n i 1 1 (mSt (msyS y n b i) i 1)) n i 1 (mNm (msyS y n b i) i)) n i 2 0 (mSt (msyS y n b i) i 0)) n i 2 1 (mSt (msyS y n b i) i 1)) i 2 (mNm (msyS y n b i) i) (by omega) (by omega) hn) (cwV 3 hts gX4_sync_X4_names rfl rfl rfl (by decide +kernel) ⟨(Nat.le_of_ble_eq_true rfl), (Nat.le_of_ble_eq_true rfl)⟩) (k_pre hP hK hD hT (k := 0) (by decide) mF_0 rfl) rfl rfl hl.1 rfl (lv_room (Nat.le_of_ble_eq_true rfl)) dX4_sync_117 ⟨Nat.zero_le _, Nat.zero_le _⟩) hD hS (fun H locs hP hS => ?_)
          refine r_iincN (k := 0) (a := 2) (d := 1) (r := 3) (lv' := [(7, .int (nI 3)), (6, .int (mNm (msyS y n b i) i)), (5, .int (mSt (msyS y n b i) i 1)), (4, .int (mSt (msyS y n b i) i 0)), (2, .int ((msyC y n b i) + (nI 0))), (0, .ref (ad 0)), (1, .int b), (3, .int (nI i))]) hx hb dX4_sync_120 hl rfl (by omega) (by decide) rfl (fun ls hl => ?_)
          refine lv_goto (tgt := 85) hx hb dX4_sync_123 (by decide) ?_
          refine lv_iload hx hb dX4_sync_85 (lv_at hl 0 rfl) ?_
          refine lv_iconst (v := nI 3) hx hb dX4_sync_87 (by decide) ?_
          refine r_cgeN (a := 3) (b := 3) (tgt := 126) hx hb (by omega) (by omega) dX4_sync_88 (by decide) (fun _ => ?_) (fun h => absurd h (by omega))
          refine r_iincN (k := 7) (a := i) (d := 1) (r := i + 1) (lv' := [(3, .int (nI (i + 1))), (7, .int (nI 3)), (6, .int (mNm (msyS y n b i) i)), (5, .int (mSt (msyS y n b i) i 1)), (4, .int (mSt (msyS y n b i) i 0)), (2, .int ((msyC y n b i) + (nI 0))), (0, .ref (ad 0)), (1, .int b)]) hx hb dX4_sync_126 hl rfl (by omega) (by decide) rfl (fun ls hl => ?_)
          refine lv_goto (tgt := 25) hx hb dX4_sync_129 (by decide) ?_
          exact ih25 _ _ (by rw [show mF cI ad (nI 0) n (msyS y n b (i + 1)) = mF cI ad ((((((((((nI 0)))))))))) n (mputN (mputS (mputS (mputN (mputS (mputS (mputN (mputS (mputS (msyS y n b i) n i 0 0 (mSt (msyS y n b i) i 0)) n i 0 1 (mSt (msyS y n b i) i 1)) n i 0 (mNm (msyS y n b i) i)) n i 1 0 (mSt (msyS y n b i) i 0)) n i 1 1 (mSt (msyS y n b i) i 1)) n i 1 (mNm (msyS y n b i) i)) n i 2 0 (mSt (msyS y n b i) i 0)) n i 2 1 (mSt (msyS y n b i) i 1)) n i 2 (mNm (msyS y n b i) i)) from by first | (rw [msyS, if_pos (by assumption)]; rfl) | rw [msyS, if_neg (by assumption)]]; exact hP) hS _ (lv_cast (lv_sub (l' := [(0, .ref (ad 0)), (1, .int b), (2, .int ((msyC y n b i) + (nI 0))), (3, .int (nI (i + 1)))]) hl [6, 7, 5, 0] rfl) (by rw [show (msyC y n b (i + 1) : Int32) = (msyC y n b i) + (nI 0) from by simp [msyC, h40_5, h49_6]]))
        · refine lv_iconst (v := nI 1) hx hb dX4_sync_52 (by decide) ?_
          refine lv_goto (tgt := 57) hx hb dX4_sync_53 (by decide) ?_
          refine lv_iadd hx hb dX4_sync_57 ?_
          refine lv_istore_n (lv' := [(2, .int ((msyC y n b i) + (nI 1))), (0, .ref (ad 0)), (1, .int b), (3, .int (nI i))]) hx hb dX4_sync_58 rfl hl (by decide) rfl (fun ls hl => ?_)
          refine lv_aload_n hx hb dX4_sync_59 rfl (lv_at hl 1 rfl) ?_
          refine lv_iload_n hx hb dX4_sync_60 rfl (lv_at hl 3 rfl) ?_
          refine lv_iconst (v := nI 0) hx hb dX4_sync_61 (by decide) ?_
          refine k_Ri (va_runV (As := [.int (nI i), .int (nI 0)]) (rest := []) hF (c_X4_mergedOf l D cI cA ad (nI 0) n (msyS y n b i) i 0 (by omega) (by omega)) (cwV 2 hts gX4_sync_X4_mergedOf rfl rfl rfl (by decide +kernel) ⟨(Nat.le_of_ble_eq_true rfl), (Nat.le_of_ble_eq_true rfl)⟩) (k_pre hP hK hD hT (k := 0) (by decide) mF_0 rfl) rfl rfl hl.1 rfl (lv_room (Nat.le_of_ble_eq_true rfl)) dX4_sync_62 ⟨Nat.zero_le _, Nat.zero_le _⟩) ?_
          refine lv_istore (lv' := [(4, .int (mSt (msyS y n b i) i 0)), (2, .int ((msyC y n b i) + (nI 1))), (0, .ref (ad 0)), (1, .int b), (3, .int (nI i))]) hx hb dX4_sync_65 hl (by decide) rfl (fun ls hl => ?_)
          refine lv_aload_n hx hb dX4_sync_67 rfl (lv_at hl 2 rfl) ?_
          refine lv_iload_n hx hb dX4_sync_68 rfl (lv_at hl 4 rfl) ?_
          refine lv_iconst (v := nI 1) hx hb dX4_sync_69 (by decide) ?_
          refine k_Ri (va_runV (As := [.int (nI i), .int (nI 1)]) (rest := []) hF (c_X4_mergedOf l D cI cA ad (nI 0) n (msyS y n b i) i 1 (by omega) (by omega)) (cwV 2 hts gX4_sync_X4_mergedOf rfl rfl rfl (by decide +kernel) ⟨(Nat.le_of_ble_eq_true rfl), (Nat.le_of_ble_eq_true rfl)⟩) (k_pre hP hK hD hT (k := 0) (by decide) mF_0 rfl) rfl rfl hl.1 rfl (lv_room (Nat.le_of_ble_eq_true rfl)) dX4_sync_70 ⟨Nat.zero_le _, Nat.zero_le _⟩) ?_
          refine lv_istore (lv' := [(5, .int (mSt (msyS y n b i) i 1)), (4, .int (mSt (msyS y n b i) i 0)), (2, .int ((msyC y n b i) + (nI 1))), (0, .ref (ad 0)), (1, .int b), (3, .int (nI i))]) hx hb dX4_sync_73 hl (by decide) rfl (fun ls hl => ?_)
          refine lv_aload_n hx hb dX4_sync_75 rfl (lv_at hl 3 rfl) ?_
          refine lv_iload_n hx hb dX4_sync_76 rfl (lv_at hl 5 rfl) ?_
          refine k_Ri (va_runV (As := [.int (nI i)]) (rest := []) hF (c_X4_mergedName l D cI cA ad (nI 0) n (msyS y n b i) i (by omega)) (cwV 1 hts gX4_sync_X4_mergedName rfl rfl rfl (by decide +kernel) ⟨(Nat.le_of_ble_eq_true rfl), (Nat.le_of_ble_eq_true rfl)⟩) (k_pre hP hK hD hT (k := 0) (by decide) mF_0 rfl) rfl rfl hl.1 rfl (lv_room (Nat.le_of_ble_eq_true rfl)) dX4_sync_77 ⟨Nat.zero_le _, Nat.zero_le _⟩) ?_
          refine lv_istore (lv' := [(6, .int (mNm (msyS y n b i) i)), (5, .int (mSt (msyS y n b i) i 1)), (4, .int (mSt (msyS y n b i) i 0)), (2, .int ((msyC y n b i) + (nI 1))), (0, .ref (ad 0)), (1, .int b), (3, .int (nI i))]) hx hb dX4_sync_80 hl (by decide) rfl (fun ls hl => ?_)
          refine lv_iconst (v := nI 0) hx hb dX4_sync_82 (by decide) ?_
          refine lv_istore (lv' := [(7, .int (nI 0)), (6, .int (mNm (msyS y n b i) i)), (5, .int (mSt (msyS y n b i) i 1)), (4, .int (mSt (msyS y n b i) i 0)), (2, .int ((msyC y n b i) + (nI 1))), (0, .ref (ad 0)), (1, .int b), (3, .int (nI i))]) hx hb dX4_sync_83 hl (by decide) rfl (fun ls hl => ?_)
          refine lv_iload hx hb dX4_sync_85 (lv_at hl 0 rfl) ?_
          refine lv_iconst (v := nI 3) hx hb dX4_sync_87 (by decide) ?_
          refine r_cgeN (a := 0) (b := 3) (tgt := 126) hx hb (by omega) (by omega) dX4_sync_88 (by decide) (fun h => absurd h (by omega)) (fun _ => ?_)
          refine lv_aload_n hx hb dX4_sync_91 rfl (lv_at hl 5 rfl) ?_
          refine lv_iload_n hx hb dX4_sync_92 rfl (lv_at hl 7 rfl) ?_
          refine lv_iload hx hb dX4_sync_93 (lv_at hl 0 rfl) ?_
          refine lv_iconst (v := nI 0) hx hb dX4_sync_95 (by decide) ?_
          refine lv_iload hx hb dX4_sync_96 (lv_at hl 3 rfl) ?_
          refine k_Wv (va_runV (As := [.int (nI i), .int (nI 0), .int (nI 0), .int (mSt (msyS y n b i) i 0)]) (rest := []) hF (c_X4_sets l D cI cA ad (nI 0) n (msyS y n b i) i 0 0 (mSt (msyS y n b i) i 0) (by omega) (by omega) (by omega) hn) (cwV 4 hts gX4_sync_X4_sets rfl rfl rfl (by decide +kernel) ⟨(Nat.le_of_ble_eq_true rfl), (Nat.le_of_ble_eq_true rfl)⟩) (k_pre hP hK hD hT (k := 0) (by decide) mF_0 rfl) rfl rfl hl.1 rfl (lv_room (Nat.le_of_ble_eq_true rfl)) dX4_sync_98 ⟨Nat.zero_le _, Nat.zero_le _⟩) hD hS (fun H locs hP hS => ?_)
          refine lv_aload_n hx hb dX4_sync_101 rfl (lv_at hl 5 rfl) ?_
          refine lv_iload_n hx hb dX4_sync_102 rfl (lv_at hl 7 rfl) ?_
          refine lv_iload hx hb dX4_sync_103 (lv_at hl 0 rfl) ?_
          refine lv_iconst (v := nI 1) hx hb dX4_sync_105 (by decide) ?_
          refine lv_iload hx hb dX4_sync_106 (lv_at hl 2 rfl) ?_
          refine k_Wv (va_runV (As := [.int (nI i), .int (nI 0), .int (nI 1), .int (mSt (msyS y n b i) i 1)]) (rest := []) hF (c_X4_sets l D cI cA ad ((nI 0)) n (mputS (msyS y n b i) n i 0 0 (mSt (msyS y n b i) i 0)) i 0 1 (mSt (msyS y n b i) i 1) (by omega) (by omega) (by omega) hn) (cwV 4 hts gX4_sync_X4_sets rfl rfl rfl (by decide +kernel) ⟨(Nat.le_of_ble_eq_true rfl), (Nat.le_of_ble_eq_true rfl)⟩) (k_pre hP hK hD hT (k := 0) (by decide) mF_0 rfl) rfl rfl hl.1 rfl (lv_room (Nat.le_of_ble_eq_true rfl)) dX4_sync_108 ⟨Nat.zero_le _, Nat.zero_le _⟩) hD hS (fun H locs hP hS => ?_)
          refine lv_aload_n hx hb dX4_sync_111 rfl (lv_at hl 5 rfl) ?_
          refine lv_iload_n hx hb dX4_sync_112 rfl (lv_at hl 7 rfl) ?_
          refine lv_iload hx hb dX4_sync_113 (lv_at hl 0 rfl) ?_
          refine lv_iload hx hb dX4_sync_115 (lv_at hl 1 rfl) ?_
          refine k_Wv (va_runV (As := [.int (nI i), .int (nI 0), .int (mNm (msyS y n b i) i)]) (rest := []) hF (c_X4_names l D cI cA ad (((nI 0))) n (mputS (mputS (msyS y n b i) n i 0 0 (mSt (msyS y n b i) i 0)) n i 0 1 (mSt (msyS y n b i) i 1)) i 0 (mNm (msyS y n b i) i) (by omega) (by omega) hn) (cwV 3 hts gX4_sync_X4_names rfl rfl rfl (by decide +kernel) ⟨(Nat.le_of_ble_eq_true rfl), (Nat.le_of_ble_eq_true rfl)⟩) (k_pre hP hK hD hT (k := 0) (by decide) mF_0 rfl) rfl rfl hl.1 rfl (lv_room (Nat.le_of_ble_eq_true rfl)) dX4_sync_117 ⟨Nat.zero_le _, Nat.zero_le _⟩) hD hS (fun H locs hP hS => ?_)
          refine r_iincN (k := 0) (a := 0) (d := 1) (r := 1) (lv' := [(7, .int (nI 1)), (6, .int (mNm (msyS y n b i) i)), (5, .int (mSt (msyS y n b i) i 1)), (4, .int (mSt (msyS y n b i) i 0)), (2, .int ((msyC y n b i) + (nI 1))), (0, .ref (ad 0)), (1, .int b), (3, .int (nI i))]) hx hb dX4_sync_120 hl rfl (by omega) (by decide) rfl (fun ls hl => ?_)
          refine lv_goto (tgt := 85) hx hb dX4_sync_123 (by decide) ?_
          refine lv_iload hx hb dX4_sync_85 (lv_at hl 0 rfl) ?_
          refine lv_iconst (v := nI 3) hx hb dX4_sync_87 (by decide) ?_
          refine r_cgeN (a := 1) (b := 3) (tgt := 126) hx hb (by omega) (by omega) dX4_sync_88 (by decide) (fun h => absurd h (by omega)) (fun _ => ?_)
          refine lv_aload_n hx hb dX4_sync_91 rfl (lv_at hl 5 rfl) ?_
          refine lv_iload_n hx hb dX4_sync_92 rfl (lv_at hl 7 rfl) ?_
          refine lv_iload hx hb dX4_sync_93 (lv_at hl 0 rfl) ?_
          refine lv_iconst (v := nI 0) hx hb dX4_sync_95 (by decide) ?_
          refine lv_iload hx hb dX4_sync_96 (lv_at hl 3 rfl) ?_
          refine k_Wv (va_runV (As := [.int (nI i), .int (nI 1), .int (nI 0), .int (mSt (msyS y n b i) i 0)]) (rest := []) hF (c_X4_sets l D cI cA ad ((((nI 0)))) n (mputN (mputS (mputS (msyS y n b i) n i 0 0 (mSt (msyS y n b i) i 0)) n i 0 1 (mSt (msyS y n b i) i 1)) n i 0 (mNm (msyS y n b i) i)) i 1 0 (mSt (msyS y n b i) i 0) (by omega) (by omega) (by omega) hn) (cwV 4 hts gX4_sync_X4_sets rfl rfl rfl (by decide +kernel) ⟨(Nat.le_of_ble_eq_true rfl), (Nat.le_of_ble_eq_true rfl)⟩) (k_pre hP hK hD hT (k := 0) (by decide) mF_0 rfl) rfl rfl hl.1 rfl (lv_room (Nat.le_of_ble_eq_true rfl)) dX4_sync_98 ⟨Nat.zero_le _, Nat.zero_le _⟩) hD hS (fun H locs hP hS => ?_)
          refine lv_aload_n hx hb dX4_sync_101 rfl (lv_at hl 5 rfl) ?_
          refine lv_iload_n hx hb dX4_sync_102 rfl (lv_at hl 7 rfl) ?_
          refine lv_iload hx hb dX4_sync_103 (lv_at hl 0 rfl) ?_
          refine lv_iconst (v := nI 1) hx hb dX4_sync_105 (by decide) ?_
          refine lv_iload hx hb dX4_sync_106 (lv_at hl 2 rfl) ?_
          refine k_Wv (va_runV (As := [.int (nI i), .int (nI 1), .int (nI 1), .int (mSt (msyS y n b i) i 1)]) (rest := []) hF (c_X4_sets l D cI cA ad (((((nI 0))))) n (mputS (mputN (mputS (mputS (msyS y n b i) n i 0 0 (mSt (msyS y n b i) i 0)) n i 0 1 (mSt (msyS y n b i) i 1)) n i 0 (mNm (msyS y n b i) i)) n i 1 0 (mSt (msyS y n b i) i 0)) i 1 1 (mSt (msyS y n b i) i 1) (by omega) (by omega) (by omega) hn) (cwV 4 hts gX4_sync_X4_sets rfl rfl rfl (by decide +kernel) ⟨(Nat.le_of_ble_eq_true rfl), (Nat.le_of_ble_eq_true rfl)⟩) (k_pre hP hK hD hT (k := 0) (by decide) mF_0 rfl) rfl rfl hl.1 rfl (lv_room (Nat.le_of_ble_eq_true rfl)) dX4_sync_108 ⟨Nat.zero_le _, Nat.zero_le _⟩) hD hS (fun H locs hP hS => ?_)
          refine lv_aload_n hx hb dX4_sync_111 rfl (lv_at hl 5 rfl) ?_
          refine lv_iload_n hx hb dX4_sync_112 rfl (lv_at hl 7 rfl) ?_
          refine lv_iload hx hb dX4_sync_113 (lv_at hl 0 rfl) ?_
          refine lv_iload hx hb dX4_sync_115 (lv_at hl 1 rfl) ?_
          refine k_Wv (va_runV (As := [.int (nI i), .int (nI 1), .int (mNm (msyS y n b i) i)]) (rest := []) hF (c_X4_names l D cI cA ad ((((((nI 0)))))) n (mputS (mputS (mputN (mputS (mputS (msyS y n b i) n i 0 0 (mSt (msyS y n b i) i 0)) n i 0 1 (mSt (msyS y n b i) i 1)) n i 0 (mNm (msyS y n b i) i)) n i 1 0 (mSt (msyS y n b i) i 0)) n i 1 1 (mSt (msyS y n b i) i 1)) i 1 (mNm (msyS y n b i) i) (by omega) (by omega) hn) (cwV 3 hts gX4_sync_X4_names rfl rfl rfl (by decide +kernel) ⟨(Nat.le_of_ble_eq_true rfl), (Nat.le_of_ble_eq_true rfl)⟩) (k_pre hP hK hD hT (k := 0) (by decide) mF_0 rfl) rfl rfl hl.1 rfl (lv_room (Nat.le_of_ble_eq_true rfl)) dX4_sync_117 ⟨Nat.zero_le _, Nat.zero_le _⟩) hD hS (fun H locs hP hS => ?_)
          refine r_iincN (k := 0) (a := 1) (d := 1) (r := 2) (lv' := [(7, .int (nI 2)), (6, .int (mNm (msyS y n b i) i)), (5, .int (mSt (msyS y n b i) i 1)), (4, .int (mSt (msyS y n b i) i 0)), (2, .int ((msyC y n b i) + (nI 1))), (0, .ref (ad 0)), (1, .int b), (3, .int (nI i))]) hx hb dX4_sync_120 hl rfl (by omega) (by decide) rfl (fun ls hl => ?_)
          refine lv_goto (tgt := 85) hx hb dX4_sync_123 (by decide) ?_
          refine lv_iload hx hb dX4_sync_85 (lv_at hl 0 rfl) ?_
          refine lv_iconst (v := nI 3) hx hb dX4_sync_87 (by decide) ?_
          refine r_cgeN (a := 2) (b := 3) (tgt := 126) hx hb (by omega) (by omega) dX4_sync_88 (by decide) (fun h => absurd h (by omega)) (fun _ => ?_)
          refine lv_aload_n hx hb dX4_sync_91 rfl (lv_at hl 5 rfl) ?_
          refine lv_iload_n hx hb dX4_sync_92 rfl (lv_at hl 7 rfl) ?_
          refine lv_iload hx hb dX4_sync_93 (lv_at hl 0 rfl) ?_
          refine lv_iconst (v := nI 0) hx hb dX4_sync_95 (by decide) ?_
          refine lv_iload hx hb dX4_sync_96 (lv_at hl 3 rfl) ?_
          refine k_Wv (va_runV (As := [.int (nI i), .int (nI 2), .int (nI 0), .int (mSt (msyS y n b i) i 0)]) (rest := []) hF (c_X4_sets l D cI cA ad (((((((nI 0))))))) n (mputN (mputS (mputS (mputN (mputS (mputS (msyS y n b i) n i 0 0 (mSt (msyS y n b i) i 0)) n i 0 1 (mSt (msyS y n b i) i 1)) n i 0 (mNm (msyS y n b i) i)) n i 1 0 (mSt (msyS y n b i) i 0)) n i 1 1 (mSt (msyS y n b i) i 1)) n i 1 (mNm (msyS y n b i) i)) i 2 0 (mSt (msyS y n b i) i 0) (by omega) (by omega) (by omega) hn) (cwV 4 hts gX4_sync_X4_sets rfl rfl rfl (by decide +kernel) ⟨(Nat.le_of_ble_eq_true rfl), (Nat.le_of_ble_eq_true rfl)⟩) (k_pre hP hK hD hT (k := 0) (by decide) mF_0 rfl) rfl rfl hl.1 rfl (lv_room (Nat.le_of_ble_eq_true rfl)) dX4_sync_98 ⟨Nat.zero_le _, Nat.zero_le _⟩) hD hS (fun H locs hP hS => ?_)
          refine lv_aload_n hx hb dX4_sync_101 rfl (lv_at hl 5 rfl) ?_
          refine lv_iload_n hx hb dX4_sync_102 rfl (lv_at hl 7 rfl) ?_
          refine lv_iload hx hb dX4_sync_103 (lv_at hl 0 rfl) ?_
          refine lv_iconst (v := nI 1) hx hb dX4_sync_105 (by decide) ?_
          refine lv_iload hx hb dX4_sync_106 (lv_at hl 2 rfl) ?_
          refine k_Wv (va_runV (As := [.int (nI i), .int (nI 2), .int (nI 1), .int (mSt (msyS y n b i) i 1)]) (rest := []) hF (c_X4_sets l D cI cA ad ((((((((nI 0)))))))) n (mputS (mputN (mputS (mputS (mputN (mputS (mputS (msyS y n b i) n i 0 0 (mSt (msyS y n b i) i 0)) n i 0 1 (mSt (msyS y n b i) i 1)) n i 0 (mNm (msyS y n b i) i)) n i 1 0 (mSt (msyS y n b i) i 0)) n i 1 1 (mSt (msyS y n b i) i 1)) n i 1 (mNm (msyS y n b i) i)) n i 2 0 (mSt (msyS y n b i) i 0)) i 2 1 (mSt (msyS y n b i) i 1) (by omega) (by omega) (by omega) hn) (cwV 4 hts gX4_sync_X4_sets rfl rfl rfl (by decide +kernel) ⟨(Nat.le_of_ble_eq_true rfl), (Nat.le_of_ble_eq_true rfl)⟩) (k_pre hP hK hD hT (k := 0) (by decide) mF_0 rfl) rfl rfl hl.1 rfl (lv_room (Nat.le_of_ble_eq_true rfl)) dX4_sync_108 ⟨Nat.zero_le _, Nat.zero_le _⟩) hD hS (fun H locs hP hS => ?_)
          refine lv_aload_n hx hb dX4_sync_111 rfl (lv_at hl 5 rfl) ?_
          refine lv_iload_n hx hb dX4_sync_112 rfl (lv_at hl 7 rfl) ?_
          refine lv_iload hx hb dX4_sync_113 (lv_at hl 0 rfl) ?_
          refine lv_iload hx hb dX4_sync_115 (lv_at hl 1 rfl) ?_
          refine k_Wv (va_runV (As := [.int (nI i), .int (nI 2), .int (mNm (msyS y n b i) i)]) (rest := []) hF (c_X4_names l D cI cA ad (((((((((nI 0))))))))) n (mputS (mputS (mputN (mputS (mputS (mputN (mputS (mputS (msyS y n b i) n i 0 0 (mSt (msyS y n b i) i 0)) n i 0 1 (mSt (msyS y n b i) i 1)) n i 0 (mNm (msyS y n b i) i)) n i 1 0 (mSt (msyS y n b i) i 0)) n i 1 1 (mSt (msyS y n b i) i 1)) n i 1 (mNm (msyS y n b i) i)) n i 2 0 (mSt (msyS y n b i) i 0)) n i 2 1 (mSt (msyS y n b i) i 1)) i 2 (mNm (msyS y n b i) i) (by omega) (by omega) hn) (cwV 3 hts gX4_sync_X4_names rfl rfl rfl (by decide +kernel) ⟨(Nat.le_of_ble_eq_true rfl), (Nat.le_of_ble_eq_true rfl)⟩) (k_pre hP hK hD hT (k := 0) (by decide) mF_0 rfl) rfl rfl hl.1 rfl (lv_room (Nat.le_of_ble_eq_true rfl)) dX4_sync_117 ⟨Nat.zero_le _, Nat.zero_le _⟩) hD hS (fun H locs hP hS => ?_)
          refine r_iincN (k := 0) (a := 2) (d := 1) (r := 3) (lv' := [(7, .int (nI 3)), (6, .int (mNm (msyS y n b i) i)), (5, .int (mSt (msyS y n b i) i 1)), (4, .int (mSt (msyS y n b i) i 0)), (2, .int ((msyC y n b i) + (nI 1))), (0, .ref (ad 0)), (1, .int b), (3, .int (nI i))]) hx hb dX4_sync_120 hl rfl (by omega) (by decide) rfl (fun ls hl => ?_)
          refine lv_goto (tgt := 85) hx hb dX4_sync_123 (by decide) ?_
          refine lv_iload hx hb dX4_sync_85 (lv_at hl 0 rfl) ?_
          refine lv_iconst (v := nI 3) hx hb dX4_sync_87 (by decide) ?_
          refine r_cgeN (a := 3) (b := 3) (tgt := 126) hx hb (by omega) (by omega) dX4_sync_88 (by decide) (fun _ => ?_) (fun h => absurd h (by omega))
          refine r_iincN (k := 7) (a := i) (d := 1) (r := i + 1) (lv' := [(3, .int (nI (i + 1))), (7, .int (nI 3)), (6, .int (mNm (msyS y n b i) i)), (5, .int (mSt (msyS y n b i) i 1)), (4, .int (mSt (msyS y n b i) i 0)), (2, .int ((msyC y n b i) + (nI 1))), (0, .ref (ad 0)), (1, .int b)]) hx hb dX4_sync_126 hl rfl (by omega) (by decide) rfl (fun ls hl => ?_)
          refine lv_goto (tgt := 25) hx hb dX4_sync_129 (by decide) ?_
          exact ih25 _ _ (by rw [show mF cI ad (nI 0) n (msyS y n b (i + 1)) = mF cI ad ((((((((((nI 0)))))))))) n (mputN (mputS (mputS (mputN (mputS (mputS (mputN (mputS (mputS (msyS y n b i) n i 0 0 (mSt (msyS y n b i) i 0)) n i 0 1 (mSt (msyS y n b i) i 1)) n i 0 (mNm (msyS y n b i) i)) n i 1 0 (mSt (msyS y n b i) i 0)) n i 1 1 (mSt (msyS y n b i) i 1)) n i 1 (mNm (msyS y n b i) i)) n i 2 0 (mSt (msyS y n b i) i 0)) n i 2 1 (mSt (msyS y n b i) i 1)) n i 2 (mNm (msyS y n b i) i)) from by first | (rw [msyS, if_pos (by assumption)]; rfl) | rw [msyS, if_neg (by assumption)]]; exact hP) hS _ (lv_cast (lv_sub (l' := [(0, .ref (ad 0)), (1, .int b), (2, .int ((msyC y n b i) + (nI 1))), (3, .int (nI (i + 1)))]) hl [6, 7, 5, 0] rfl) (by rw [show (msyC y n b (i + 1) : Int32) = (msyC y n b i) + (nI 1) from by simp [msyC, h40_5, h49_6]]))
  exact hL25 0 (Nat.zero_le _) _ _ (by rw [show mF cI ad (nI 0) n (msyS y n b 0) = mF cI ad (nI 0) n y from rfl]; exact hP) hS _ (lv_cast (lv_sub (l' := [(0, .ref (ad 0)), (1, .int b), (2, .int (nI 0)), (3, .int (nI 0))]) hl [2, 3, 1, 0] rfl) (by rw [show (msyC y n b 0 : Int32) = nI 0 from rfl]))
set_option maxHeartbeats 4000000 in
set_option maxRecDepth 100000 in
theorem m_sync_1 (l : Launch) (D : va_G) (cI : ClassId) (cA : ClassId) (ad : Nat → Nat) (th : Int32) (n : Nat) (y : Nat → Nat → Int32) (b : Int32) (hbk : bookB b = false) : Met l yX4_sync wsX4_sync ({ frames := 2, cells := 0, slots := 0, locals := 42 }) (va_Pc [.ref (ad 0), .int b] (mX D cI cA ad th n y)) (qW D ad (mF cI ad (nI 1) n y) 8 (some (.int (nI 0)))) 0 0 (wA ad 8) := by
  refine c_ofW (cc := cX4_sync) (maxL := 8) (ret := .int) (by decide) rfl rfl (Nat.le_of_ble_eq_true rfl) ?_
  intro p e s m av below meth cd Q hx hb hF hP hK hD hT hret ls hl
  have hown : s.vm.findClass RX4 = some m.cls := hF.2.2.2.1
  have hF : CallFix p m cd cX4_sync 8 s av wsX4_sync RX4 := hF
  have hts := hF.2.2.2.2
  have hl : lv_has ls 8 [(0, .ref (ad 0)), (1, .int b)] := hl
  obtain ⟨H, eH⟩ : ∃ H9 : Heap, H9 = s.heap := ⟨_, rfl⟩
  obtain ⟨locs, eL⟩ : ∃ L9 : List Loc, L9 = [] := ⟨_, rfl⟩
  have hS : sS (wA ad 8) s.heap H locs := by rw [eH, eL]; exact sS.rf
  rw [← eH] at hP
  suffices hgo : W p l e ({ frames := 2, cells := 0, slots := 0, locals := 42 }) s m av below meth cd H locs 0 0 Q (F0 m 0 ls []) by rw [eH, eL] at hgo; exact hgo
  clear eH eL
  refine lv_aload_n hx hb dX4_sync_0 rfl (lv_at hl 0 rfl) ?_
  refine lv_iload_n hx hb dX4_sync_1 rfl (lv_at hl 1 rfl) ?_
  refine k_Ri (va_runS (As := [.int b]) (rest := [.ref (ad 0)]) hF (c_X4_isBook l b) (va_cwS 1 hts gX4_sync_X4_isBook rfl rfl rfl (by decide +kernel) ⟨(Nat.le_of_ble_eq_true rfl), (Nat.le_of_ble_eq_true rfl)⟩) k_preS rfl rfl hl.1 rfl (lv_room (Nat.le_of_ble_eq_true rfl)) dX4_sync_2 ⟨Nat.zero_le _, Nat.zero_le _⟩) ?_
  refine r_topi (show bI (bookB b) = bI false from congrArg bI (hbk)) ?_
  refine r_ifeqB (b := false) (tgt := 12) hx hb dX4_sync_5 (by decide) (fun _ => ?_) (fun h => absurd h (by decide))
  refine lv_iconst (v := nI 1) hx hb dX4_sync_12 (by decide) ?_
  refine k_Wi (va_runV (As := [.int (nI 1)]) (rest := []) hF (c_X4_isFine_1 l D cI cA ad th n y) (cwV 1 hts gX4_sync_X4_isFine rfl rfl rfl (by decide +kernel) ⟨(Nat.le_of_ble_eq_true rfl), (Nat.le_of_ble_eq_true rfl)⟩) (k_pre hP hK hD hT (k := 0) (by decide) mF_0 rfl) rfl rfl hl.1 rfl (lv_room (Nat.le_of_ble_eq_true rfl)) dX4_sync_13 ⟨Nat.zero_le _, Nat.zero_le _⟩) hD hS (fun H locs hP hS => ?_)
  refine r_ifneB (b := false) (tgt := 21) hx hb dX4_sync_16 (by decide) (fun h => absurd h (by decide)) (fun _ => ?_)
  refine lv_iconst (v := nI 0) hx hb dX4_sync_19 (by decide) ?_
  exact hret _ _ _ _ _ _ hP hS dX4_sync_20 (rfl) (rfl)
set_option maxHeartbeats 4000000 in
set_option maxRecDepth 100000 in
theorem m_unsynced_0 (l : Launch) (D : va_G) (cI : ClassId) (cA : ClassId) (ad : Nat → Nat) (th : Int32) (n : Nat) (y : Nat → Nat → Int32) (b : Int32) (hbk : bookB b = true) (hn : n ≤ 24) : Met l yX4_unsynced wsX4_unsynced ({ frames := 2, cells := 0, slots := 0, locals := 46 }) (va_Pc [.ref (ad 0), .int b] (mX D cI cA ad th n y)) (qW D ad (mF cI ad (nI 0) n y) 8 (some (.int (musC y b n)))) 0 0 (wA ad 8) := by
  refine c_ofW (cc := cX4_unsynced) (maxL := 6) (ret := .int) (by decide) rfl rfl (Nat.le_of_ble_eq_true rfl) ?_
  intro p e s m av below meth cd Q hx hb hF hP hK hD hT hret ls hl
  have hown : s.vm.findClass RX4 = some m.cls := hF.2.2.2.1
  have hF : CallFix p m cd cX4_unsynced 6 s av wsX4_unsynced RX4 := hF
  have hts := hF.2.2.2.2
  have hl : lv_has ls 6 [(0, .ref (ad 0)), (1, .int b)] := hl
  obtain ⟨H, eH⟩ : ∃ H9 : Heap, H9 = s.heap := ⟨_, rfl⟩
  obtain ⟨locs, eL⟩ : ∃ L9 : List Loc, L9 = [] := ⟨_, rfl⟩
  have hS : sS (wA ad 8) s.heap H locs := by rw [eH, eL]; exact sS.rf
  rw [← eH] at hP
  suffices hgo : W p l e ({ frames := 2, cells := 0, slots := 0, locals := 46 }) s m av below meth cd H locs 0 0 Q (F0 m 0 ls []) by rw [eH, eL] at hgo; exact hgo
  clear eH eL
  refine lv_aload_n hx hb dX4_unsynced_0 rfl (lv_at hl 0 rfl) ?_
  refine lv_iload_n hx hb dX4_unsynced_1 rfl (lv_at hl 1 rfl) ?_
  refine k_Ri (va_runS (As := [.int b]) (rest := [.ref (ad 0)]) hF (c_X4_isBook l b) (va_cwS 1 hts gX4_unsynced_X4_isBook rfl rfl rfl (by decide +kernel) ⟨(Nat.le_of_ble_eq_true rfl), (Nat.le_of_ble_eq_true rfl)⟩) k_preS rfl rfl hl.1 rfl (lv_room (Nat.le_of_ble_eq_true rfl)) dX4_unsynced_2 ⟨Nat.zero_le _, Nat.zero_le _⟩) ?_
  refine r_topi (show bI (bookB b) = bI true from congrArg bI (hbk)) ?_
  refine r_ifeqB (b := true) (tgt := 12) hx hb dX4_unsynced_5 (by decide) (fun h => absurd h (by decide)) (fun _ => ?_)
  refine lv_iconst (v := nI 0) hx hb dX4_unsynced_8 (by decide) ?_
  refine lv_goto (tgt := 13) hx hb dX4_unsynced_9 (by decide) ?_
  refine k_Wi (va_runV (As := [.int (nI 0)]) (rest := []) hF (c_X4_isFine_0 l D cI cA ad th n y) (cwV 1 hts gX4_unsynced_X4_isFine rfl rfl rfl (by decide +kernel) ⟨(Nat.le_of_ble_eq_true rfl), (Nat.le_of_ble_eq_true rfl)⟩) (k_pre hP hK hD hT (k := 0) (by decide) mF_0 rfl) rfl rfl hl.1 rfl (lv_room (Nat.le_of_ble_eq_true rfl)) dX4_unsynced_13 ⟨Nat.zero_le _, Nat.zero_le _⟩) hD hS (fun H locs hP hS => ?_)
  refine r_ifneB (b := true) (tgt := 21) hx hb dX4_unsynced_16 (by decide) (fun _ => ?_) (fun h => absurd h (by decide))
  refine lv_iconst (v := nI 0) hx hb dX4_unsynced_21 (by decide) ?_
  refine lv_istore_n (lv' := [(2, .int (nI 0)), (0, .ref (ad 0)), (1, .int b)]) hx hb dX4_unsynced_22 rfl hl (by decide) rfl (fun ls hl => ?_)
  refine lv_iconst (v := nI 0) hx hb dX4_unsynced_23 (by decide) ?_
  refine lv_istore_n (lv' := [(3, .int (nI 0)), (2, .int (nI 0)), (0, .ref (ad 0)), (1, .int b)]) hx hb dX4_unsynced_24 rfl hl (by decide) rfl (fun ls hl => ?_)
  have hL25 : ∀ i : Nat, i ≤ n → ∀ (H : Heap) (locs : List Loc), va_P D vwCl (wl ad (mF cI ad (nI 0) n y) 8) H → sS (wA ad 8) s.heap H locs → ∀ ls : Array Slot, lv_has ls 6 [(0, .ref (ad 0)), (1, .int b), (2, .int (musC y b i)), (3, .int (nI i))] → W p l e ({ frames := 2, cells := 0, slots := 0, locals := 46 }) s m av below meth cd H locs 0 0 Q (F0 m 25 ls []) := by
    refine down (n) ?_ ?_
    · intro H locs hP hS ls hl
      refine lv_iload_n hx hb dX4_unsynced_25 rfl (lv_at hl 3 rfl) ?_
      refine lv_aload_n hx hb dX4_unsynced_26 rfl (lv_at hl 0 rfl) ?_
      refine r_get (C := RX4) (T := TX4) (M := 9) (index := 35) (fd := "cards") (fo := "I") hx hb hts (by decide +kernel) hown hK hP 0 (by decide) mF_0 rfl 7 (by decide) rfl (by decide +kernel) rfl dX4_unsynced_27 ?_
      refine r_cgeN (a := n) (b := n) (tgt := 153) hx hb (by omega) (by omega) dX4_unsynced_30 (by decide) (fun _ => ?_) (fun h => absurd h (by omega))
      refine lv_iload_n hx hb dX4_unsynced_153 rfl (lv_at hl 2 rfl) ?_
      exact hret _ _ _ _ _ _ hP hS dX4_unsynced_154 (rfl) (rfl)
    · intro i hi25 ih25 H locs hP hS ls hl
      refine lv_iload_n hx hb dX4_unsynced_25 rfl (lv_at hl 3 rfl) ?_
      refine lv_aload_n hx hb dX4_unsynced_26 rfl (lv_at hl 0 rfl) ?_
      refine r_get (C := RX4) (T := TX4) (M := 9) (index := 35) (fd := "cards") (fo := "I") hx hb hts (by decide +kernel) hown hK hP 0 (by decide) mF_0 rfl 7 (by decide) rfl (by decide +kernel) rfl dX4_unsynced_27 ?_
      refine r_cgeN (a := i) (b := n) (tgt := 153) hx hb (by omega) (by omega) dX4_unsynced_30 (by decide) (fun h => absurd h (by omega)) (fun _ => ?_)
      refine lv_iconst (v := nI 1) hx hb dX4_unsynced_33 (by decide) ?_
      refine lv_istore (lv' := [(4, .int (nI 1)), (0, .ref (ad 0)), (1, .int b), (2, .int (musC y b i)), (3, .int (nI i))]) hx hb dX4_unsynced_34 hl (by decide) rfl (fun ls hl => ?_)
      refine lv_iconst (v := nI 0) hx hb dX4_unsynced_36 (by decide) ?_
      refine lv_istore (lv' := [(5, .int (nI 0)), (4, .int (nI 1)), (0, .ref (ad 0)), (1, .int b), (2, .int (musC y b i)), (3, .int (nI i))]) hx hb dX4_unsynced_37 hl (by decide) rfl (fun ls hl => ?_)
      refine lv_iload hx hb dX4_unsynced_39 (lv_at hl 0 rfl) ?_
      refine lv_iconst (v := nI 3) hx hb dX4_unsynced_41 (by decide) ?_
      refine r_cgeN (a := 0) (b := 3) (tgt := 124) hx hb (by omega) (by omega) dX4_unsynced_42 (by decide) (fun h => absurd h (by omega)) (fun _ => ?_)
      refine lv_iload hx hb dX4_unsynced_45 (lv_at hl 1 rfl) ?_
      refine r_ifeqN (a := 1) (tgt := 115) hx hb (by omega) dX4_unsynced_47 (by decide) (fun h => absurd h (by omega)) (fun _ => ?_)
      refine lv_aload_n hx hb dX4_unsynced_50 rfl (lv_at hl 2 rfl) ?_
      refine r_get (C := RX4) (T := TX4) (M := 9) (index := 13) (fd := "name") (fo := "[I") hx hb hts (by decide +kernel) hown hK hP 0 (by decide) mF_0 rfl 2 (by decide) rfl (by decide +kernel) rfl dX4_unsynced_51 ?_
      refine lv_iconst (v := nI 3) hx hb dX4_unsynced_54 (by decide) ?_
      refine lv_iload_n hx hb dX4_unsynced_55 rfl (lv_at hl 5 rfl) ?_
      refine r_mulN (a := 3) (b := i) (r := 3 * i) hx hb dX4_unsynced_56 (by omega) ?_
      refine lv_iload hx hb dX4_unsynced_57 (lv_at hl 0 rfl) ?_
      refine r_addN (a := 3 * i) (b := 0) (r := 3 * i) hx hb dX4_unsynced_59 (by omega) ?_
      refine r_iald hx hb hK hP 2 0 (by omega) mF_2 rfl (i := 3 * i) (by omega) (by decide) dX4_unsynced_60 ?_
      refine lv_aload_n hx hb dX4_unsynced_61 rfl (lv_at hl 2 rfl) ?_
      refine lv_iload_n hx hb dX4_unsynced_62 rfl (lv_at hl 5 rfl) ?_
      refine k_Ri (va_runV (As := [.int (nI i)]) (rest := [.int (y 2 (3 * i))]) hF (c_X4_mergedName l D cI cA ad (nI 0) n y i (by omega)) (cwV 1 hts gX4_unsynced_X4_mergedName rfl rfl rfl (by decide +kernel) ⟨(Nat.le_of_ble_eq_true rfl), (Nat.le_of_ble_eq_true rfl)⟩) (k_pre hP hK hD hT (k := 0) (by decide) mF_0 rfl) rfl rfl hl.1 rfl (lv_room (Nat.le_of_ble_eq_true rfl)) dX4_unsynced_63 ⟨Nat.zero_le _, Nat.zero_le _⟩) ?_
      refine lv_icmp_ne (tgt := 115) hx hb dX4_unsynced_66 (by decide) (fun h66_7 => ?_) (fun h66_7 => ?_)
      · refine lv_iconst (v := nI 0) hx hb dX4_unsynced_115 (by decide) ?_
        refine lv_istore (lv' := [(4, .int (nI 0)), (5, .int (nI 0)), (0, .ref (ad 0)), (1, .int b), (2, .int (musC y b i)), (3, .int (nI i))]) hx hb dX4_unsynced_116 hl (by decide) rfl (fun ls hl => ?_)
        refine r_iincN (k := 1) (a := 0) (d := 1) (r := 1) (lv' := [(5, .int (nI 1)), (4, .int (nI 0)), (0, .ref (ad 0)), (1, .int b), (2, .int (musC y b i)), (3, .int (nI i))]) hx hb dX4_unsynced_118 hl rfl (by omega) (by decide) rfl (fun ls hl => ?_)
        refine lv_goto (tgt := 39) hx hb dX4_unsynced_121 (by decide) ?_
        refine lv_iload hx hb dX4_unsynced_39 (lv_at hl 0 rfl) ?_
        refine lv_iconst (v := nI 3) hx hb dX4_unsynced_41 (by decide) ?_
        refine r_cgeN (a := 1) (b := 3) (tgt := 124) hx hb (by omega) (by omega) dX4_unsynced_42 (by decide) (fun h => absurd h (by omega)) (fun _ => ?_)
        refine lv_iload hx hb dX4_unsynced_45 (lv_at hl 1 rfl) ?_
        refine r_ifeqN (a := 0) (tgt := 115) hx hb (by omega) dX4_unsynced_47 (by decide) (fun _ => ?_) (fun h => absurd h (by omega))
        refine lv_iconst (v := nI 0) hx hb dX4_unsynced_115 (by decide) ?_
        refine lv_istore (lv' := [(4, .int (nI 0)), (5, .int (nI 1)), (0, .ref (ad 0)), (1, .int b), (2, .int (musC y b i)), (3, .int (nI i))]) hx hb dX4_unsynced_116 hl (by decide) rfl (fun ls hl => ?_)
        refine r_iincN (k := 1) (a := 1) (d := 1) (r := 2) (lv' := [(5, .int (nI 2)), (4, .int (nI 0)), (0, .ref (ad 0)), (1, .int b), (2, .int (musC y b i)), (3, .int (nI i))]) hx hb dX4_unsynced_118 hl rfl (by omega) (by decide) rfl (fun ls hl => ?_)
        refine lv_goto (tgt := 39) hx hb dX4_unsynced_121 (by decide) ?_
        refine lv_iload hx hb dX4_unsynced_39 (lv_at hl 0 rfl) ?_
        refine lv_iconst (v := nI 3) hx hb dX4_unsynced_41 (by decide) ?_
        refine r_cgeN (a := 2) (b := 3) (tgt := 124) hx hb (by omega) (by omega) dX4_unsynced_42 (by decide) (fun h => absurd h (by omega)) (fun _ => ?_)
        refine lv_iload hx hb dX4_unsynced_45 (lv_at hl 1 rfl) ?_
        refine r_ifeqN (a := 0) (tgt := 115) hx hb (by omega) dX4_unsynced_47 (by decide) (fun _ => ?_) (fun h => absurd h (by omega))
        refine lv_iconst (v := nI 0) hx hb dX4_unsynced_115 (by decide) ?_
        refine lv_istore (lv' := [(4, .int (nI 0)), (5, .int (nI 2)), (0, .ref (ad 0)), (1, .int b), (2, .int (musC y b i)), (3, .int (nI i))]) hx hb dX4_unsynced_116 hl (by decide) rfl (fun ls hl => ?_)
        refine r_iincN (k := 1) (a := 2) (d := 1) (r := 3) (lv' := [(5, .int (nI 3)), (4, .int (nI 0)), (0, .ref (ad 0)), (1, .int b), (2, .int (musC y b i)), (3, .int (nI i))]) hx hb dX4_unsynced_118 hl rfl (by omega) (by decide) rfl (fun ls hl => ?_)
        refine lv_goto (tgt := 39) hx hb dX4_unsynced_121 (by decide) ?_
        refine lv_iload hx hb dX4_unsynced_39 (lv_at hl 0 rfl) ?_
        refine lv_iconst (v := nI 3) hx hb dX4_unsynced_41 (by decide) ?_
        refine r_cgeN (a := 3) (b := 3) (tgt := 124) hx hb (by omega) (by omega) dX4_unsynced_42 (by decide) (fun _ => ?_) (fun h => absurd h (by omega))
        refine lv_iload_n hx hb dX4_unsynced_124 rfl (lv_at hl 4 rfl) ?_
        refine lv_aload_n hx hb dX4_unsynced_125 rfl (lv_at hl 2 rfl) ?_
        refine r_get (C := RX4) (T := TX4) (M := 9) (index := 7) (fd := "book") (fo := "[I") hx hb hts (by decide +kernel) hown hK hP 0 (by decide) mF_0 rfl 1 (by decide) rfl (by decide +kernel) rfl dX4_unsynced_126 ?_
        refine lv_iload_n hx hb dX4_unsynced_129 rfl (lv_at hl 5 rfl) ?_
        refine r_iald hx hb hK hP 1 0 (by omega) (mF_a 1 (by omega)) rfl (i := i) (by omega) (by decide) dX4_unsynced_130 ?_
        refine lv_iload_n hx hb dX4_unsynced_131 rfl (lv_at hl 3 rfl) ?_
        refine lv_icmp_ne (tgt := 144) hx hb dX4_unsynced_132 (by decide) (fun h132_13 => ?_) (fun h132_13 => ?_)
        · refine lv_iconst (v := nI 0) hx hb dX4_unsynced_144 (by decide) ?_
          refine lv_iadd hx hb dX4_unsynced_145 ?_
          refine lv_istore_n (lv' := [(2, .int ((musC y b i) + (nI 0))), (5, .int (nI 3)), (4, .int (nI 0)), (0, .ref (ad 0)), (1, .int b), (3, .int (nI i))]) hx hb dX4_unsynced_146 rfl hl (by decide) rfl (fun ls hl => ?_)
          refine r_iincN (k := 5) (a := i) (d := 1) (r := i + 1) (lv' := [(3, .int (nI (i + 1))), (2, .int ((musC y b i) + (nI 0))), (5, .int (nI 3)), (4, .int (nI 0)), (0, .ref (ad 0)), (1, .int b)]) hx hb dX4_unsynced_147 hl rfl (by omega) (by decide) rfl (fun ls hl => ?_)
          refine lv_goto (tgt := 25) hx hb dX4_unsynced_150 (by decide) ?_
          exact ih25 _ _ hP hS _ (lv_cast (lv_sub (l' := [(0, .ref (ad 0)), (1, .int b), (2, .int ((musC y b i) + (nI 0))), (3, .int (nI (i + 1)))]) hl [4, 5, 1, 0] rfl) (by rw [show (musC y b (i + 1) : Int32) = (musC y b i) + (nI 0) from by simp [musC, msynB, h66_7, h132_13]]))
        · refine lv_iload hx hb dX4_unsynced_135 (lv_at hl 1 rfl) ?_
          refine r_ifneN (a := 0) (tgt := 144) hx hb (by omega) dX4_unsynced_137 (by decide) (fun h => absurd h (by omega)) (fun _ => ?_)
          refine lv_iconst (v := nI 1) hx hb dX4_unsynced_140 (by decide) ?_
          refine lv_goto (tgt := 145) hx hb dX4_unsynced_141 (by decide) ?_
          refine lv_iadd hx hb dX4_unsynced_145 ?_
          refine lv_istore_n (lv' := [(2, .int ((musC y b i) + (nI 1))), (5, .int (nI 3)), (4, .int (nI 0)), (0, .ref (ad 0)), (1, .int b), (3, .int (nI i))]) hx hb dX4_unsynced_146 rfl hl (by decide) rfl (fun ls hl => ?_)
          refine r_iincN (k := 5) (a := i) (d := 1) (r := i + 1) (lv' := [(3, .int (nI (i + 1))), (2, .int ((musC y b i) + (nI 1))), (5, .int (nI 3)), (4, .int (nI 0)), (0, .ref (ad 0)), (1, .int b)]) hx hb dX4_unsynced_147 hl rfl (by omega) (by decide) rfl (fun ls hl => ?_)
          refine lv_goto (tgt := 25) hx hb dX4_unsynced_150 (by decide) ?_
          exact ih25 _ _ hP hS _ (lv_cast (lv_sub (l' := [(0, .ref (ad 0)), (1, .int b), (2, .int ((musC y b i) + (nI 1))), (3, .int (nI (i + 1)))]) hl [4, 5, 1, 0] rfl) (by rw [show (musC y b (i + 1) : Int32) = (musC y b i) + (nI 1) from by simp [musC, msynB, h66_7, h132_13]]))
      · refine lv_aload_n hx hb dX4_unsynced_69 rfl (lv_at hl 2 rfl) ?_
        refine r_get (C := RX4) (T := TX4) (M := 9) (index := 16) (fd := "set") (fo := "[I") hx hb hts (by decide +kernel) hown hK hP 0 (by decide) mF_0 rfl 3 (by decide) rfl (by decide +kernel) rfl dX4_unsynced_70 ?_
        refine lv_iload_n hx hb dX4_unsynced_73 rfl (lv_at hl 5 rfl) ?_
        refine lv_iload hx hb dX4_unsynced_74 (lv_at hl 0 rfl) ?_
        refine lv_iconst (v := nI 0) hx hb dX4_unsynced_76 (by decide) ?_
        refine k_Ri (va_runS (As := [.int (nI i), .int (nI 0), .int (nI 0)]) (rest := [.ref (ad 3)]) hF (c_X4_at l i 0 0 (by omega) (by omega) (by omega)) (va_cwS 3 hts gX4_unsynced_X4_at rfl rfl rfl (by decide +kernel) ⟨(Nat.le_of_ble_eq_true rfl), (Nat.le_of_ble_eq_true rfl)⟩) k_preS rfl rfl hl.1 rfl (lv_room (Nat.le_of_ble_eq_true rfl)) dX4_unsynced_77 ⟨Nat.zero_le _, Nat.zero_le _⟩) ?_
        refine r_topi (show (nI (6 * i + 2 * 0 + 0) : Int32) = nI (6 * i) from congrArg nI (by omega)) ?_
        refine r_iald hx hb hK hP 3 0 (by omega) mF_3 rfl (i := 6 * i) (by omega) (by decide) dX4_unsynced_80 ?_
        refine lv_aload_n hx hb dX4_unsynced_81 rfl (lv_at hl 2 rfl) ?_
        refine lv_iload_n hx hb dX4_unsynced_82 rfl (lv_at hl 5 rfl) ?_
        refine lv_iconst (v := nI 0) hx hb dX4_unsynced_83 (by decide) ?_
        refine k_Ri (va_runV (As := [.int (nI i), .int (nI 0)]) (rest := [.int (y 3 (6 * i))]) hF (c_X4_mergedOf l D cI cA ad (nI 0) n y i 0 (by omega) (by omega)) (cwV 2 hts gX4_unsynced_X4_mergedOf rfl rfl rfl (by decide +kernel) ⟨(Nat.le_of_ble_eq_true rfl), (Nat.le_of_ble_eq_true rfl)⟩) (k_pre hP hK hD hT (k := 0) (by decide) mF_0 rfl) rfl rfl hl.1 rfl (lv_room (Nat.le_of_ble_eq_true rfl)) dX4_unsynced_84 ⟨Nat.zero_le _, Nat.zero_le _⟩) ?_
        refine lv_icmp_ne (tgt := 115) hx hb dX4_unsynced_87 (by decide) (fun h87_15 => ?_) (fun h87_15 => ?_)
        · refine lv_iconst (v := nI 0) hx hb dX4_unsynced_115 (by decide) ?_
          refine lv_istore (lv' := [(4, .int (nI 0)), (5, .int (nI 0)), (0, .ref (ad 0)), (1, .int b), (2, .int (musC y b i)), (3, .int (nI i))]) hx hb dX4_unsynced_116 hl (by decide) rfl (fun ls hl => ?_)
          refine r_iincN (k := 1) (a := 0) (d := 1) (r := 1) (lv' := [(5, .int (nI 1)), (4, .int (nI 0)), (0, .ref (ad 0)), (1, .int b), (2, .int (musC y b i)), (3, .int (nI i))]) hx hb dX4_unsynced_118 hl rfl (by omega) (by decide) rfl (fun ls hl => ?_)
          refine lv_goto (tgt := 39) hx hb dX4_unsynced_121 (by decide) ?_
          refine lv_iload hx hb dX4_unsynced_39 (lv_at hl 0 rfl) ?_
          refine lv_iconst (v := nI 3) hx hb dX4_unsynced_41 (by decide) ?_
          refine r_cgeN (a := 1) (b := 3) (tgt := 124) hx hb (by omega) (by omega) dX4_unsynced_42 (by decide) (fun h => absurd h (by omega)) (fun _ => ?_)
          refine lv_iload hx hb dX4_unsynced_45 (lv_at hl 1 rfl) ?_
          refine r_ifeqN (a := 0) (tgt := 115) hx hb (by omega) dX4_unsynced_47 (by decide) (fun _ => ?_) (fun h => absurd h (by omega))
          refine lv_iconst (v := nI 0) hx hb dX4_unsynced_115 (by decide) ?_
          refine lv_istore (lv' := [(4, .int (nI 0)), (5, .int (nI 1)), (0, .ref (ad 0)), (1, .int b), (2, .int (musC y b i)), (3, .int (nI i))]) hx hb dX4_unsynced_116 hl (by decide) rfl (fun ls hl => ?_)
          refine r_iincN (k := 1) (a := 1) (d := 1) (r := 2) (lv' := [(5, .int (nI 2)), (4, .int (nI 0)), (0, .ref (ad 0)), (1, .int b), (2, .int (musC y b i)), (3, .int (nI i))]) hx hb dX4_unsynced_118 hl rfl (by omega) (by decide) rfl (fun ls hl => ?_)
          refine lv_goto (tgt := 39) hx hb dX4_unsynced_121 (by decide) ?_
          refine lv_iload hx hb dX4_unsynced_39 (lv_at hl 0 rfl) ?_
          refine lv_iconst (v := nI 3) hx hb dX4_unsynced_41 (by decide) ?_
          refine r_cgeN (a := 2) (b := 3) (tgt := 124) hx hb (by omega) (by omega) dX4_unsynced_42 (by decide) (fun h => absurd h (by omega)) (fun _ => ?_)
          refine lv_iload hx hb dX4_unsynced_45 (lv_at hl 1 rfl) ?_
          refine r_ifeqN (a := 0) (tgt := 115) hx hb (by omega) dX4_unsynced_47 (by decide) (fun _ => ?_) (fun h => absurd h (by omega))
          refine lv_iconst (v := nI 0) hx hb dX4_unsynced_115 (by decide) ?_
          refine lv_istore (lv' := [(4, .int (nI 0)), (5, .int (nI 2)), (0, .ref (ad 0)), (1, .int b), (2, .int (musC y b i)), (3, .int (nI i))]) hx hb dX4_unsynced_116 hl (by decide) rfl (fun ls hl => ?_)
          refine r_iincN (k := 1) (a := 2) (d := 1) (r := 3) (lv' := [(5, .int (nI 3)), (4, .int (nI 0)), (0, .ref (ad 0)), (1, .int b), (2, .int (musC y b i)), (3, .int (nI i))]) hx hb dX4_unsynced_118 hl rfl (by omega) (by decide) rfl (fun ls hl => ?_)
          refine lv_goto (tgt := 39) hx hb dX4_unsynced_121 (by decide) ?_
          refine lv_iload hx hb dX4_unsynced_39 (lv_at hl 0 rfl) ?_
          refine lv_iconst (v := nI 3) hx hb dX4_unsynced_41 (by decide) ?_
          refine r_cgeN (a := 3) (b := 3) (tgt := 124) hx hb (by omega) (by omega) dX4_unsynced_42 (by decide) (fun _ => ?_) (fun h => absurd h (by omega))
          refine lv_iload_n hx hb dX4_unsynced_124 rfl (lv_at hl 4 rfl) ?_
          refine lv_aload_n hx hb dX4_unsynced_125 rfl (lv_at hl 2 rfl) ?_
          refine r_get (C := RX4) (T := TX4) (M := 9) (index := 7) (fd := "book") (fo := "[I") hx hb hts (by decide +kernel) hown hK hP 0 (by decide) mF_0 rfl 1 (by decide) rfl (by decide +kernel) rfl dX4_unsynced_126 ?_
          refine lv_iload_n hx hb dX4_unsynced_129 rfl (lv_at hl 5 rfl) ?_
          refine r_iald hx hb hK hP 1 0 (by omega) (mF_a 1 (by omega)) rfl (i := i) (by omega) (by decide) dX4_unsynced_130 ?_
          refine lv_iload_n hx hb dX4_unsynced_131 rfl (lv_at hl 3 rfl) ?_
          refine lv_icmp_ne (tgt := 144) hx hb dX4_unsynced_132 (by decide) (fun h132_21 => ?_) (fun h132_21 => ?_)
          · refine lv_iconst (v := nI 0) hx hb dX4_unsynced_144 (by decide) ?_
            refine lv_iadd hx hb dX4_unsynced_145 ?_
            refine lv_istore_n (lv' := [(2, .int ((musC y b i) + (nI 0))), (5, .int (nI 3)), (4, .int (nI 0)), (0, .ref (ad 0)), (1, .int b), (3, .int (nI i))]) hx hb dX4_unsynced_146 rfl hl (by decide) rfl (fun ls hl => ?_)
            refine r_iincN (k := 5) (a := i) (d := 1) (r := i + 1) (lv' := [(3, .int (nI (i + 1))), (2, .int ((musC y b i) + (nI 0))), (5, .int (nI 3)), (4, .int (nI 0)), (0, .ref (ad 0)), (1, .int b)]) hx hb dX4_unsynced_147 hl rfl (by omega) (by decide) rfl (fun ls hl => ?_)
            refine lv_goto (tgt := 25) hx hb dX4_unsynced_150 (by decide) ?_
            exact ih25 _ _ hP hS _ (lv_cast (lv_sub (l' := [(0, .ref (ad 0)), (1, .int b), (2, .int ((musC y b i) + (nI 0))), (3, .int (nI (i + 1)))]) hl [4, 5, 1, 0] rfl) (by rw [show (musC y b (i + 1) : Int32) = (musC y b i) + (nI 0) from by simp [musC, msynB, h66_7, h87_15, h132_21]]))
          · refine lv_iload hx hb dX4_unsynced_135 (lv_at hl 1 rfl) ?_
            refine r_ifneN (a := 0) (tgt := 144) hx hb (by omega) dX4_unsynced_137 (by decide) (fun h => absurd h (by omega)) (fun _ => ?_)
            refine lv_iconst (v := nI 1) hx hb dX4_unsynced_140 (by decide) ?_
            refine lv_goto (tgt := 145) hx hb dX4_unsynced_141 (by decide) ?_
            refine lv_iadd hx hb dX4_unsynced_145 ?_
            refine lv_istore_n (lv' := [(2, .int ((musC y b i) + (nI 1))), (5, .int (nI 3)), (4, .int (nI 0)), (0, .ref (ad 0)), (1, .int b), (3, .int (nI i))]) hx hb dX4_unsynced_146 rfl hl (by decide) rfl (fun ls hl => ?_)
            refine r_iincN (k := 5) (a := i) (d := 1) (r := i + 1) (lv' := [(3, .int (nI (i + 1))), (2, .int ((musC y b i) + (nI 1))), (5, .int (nI 3)), (4, .int (nI 0)), (0, .ref (ad 0)), (1, .int b)]) hx hb dX4_unsynced_147 hl rfl (by omega) (by decide) rfl (fun ls hl => ?_)
            refine lv_goto (tgt := 25) hx hb dX4_unsynced_150 (by decide) ?_
            exact ih25 _ _ hP hS _ (lv_cast (lv_sub (l' := [(0, .ref (ad 0)), (1, .int b), (2, .int ((musC y b i) + (nI 1))), (3, .int (nI (i + 1)))]) hl [4, 5, 1, 0] rfl) (by rw [show (musC y b (i + 1) : Int32) = (musC y b i) + (nI 1) from by simp [musC, msynB, h66_7, h87_15, h132_21]]))
        · refine lv_aload_n hx hb dX4_unsynced_90 rfl (lv_at hl 2 rfl) ?_
          refine r_get (C := RX4) (T := TX4) (M := 9) (index := 16) (fd := "set") (fo := "[I") hx hb hts (by decide +kernel) hown hK hP 0 (by decide) mF_0 rfl 3 (by decide) rfl (by decide +kernel) rfl dX4_unsynced_91 ?_
          refine lv_iload_n hx hb dX4_unsynced_94 rfl (lv_at hl 5 rfl) ?_
          refine lv_iload hx hb dX4_unsynced_95 (lv_at hl 0 rfl) ?_
          refine lv_iconst (v := nI 1) hx hb dX4_unsynced_97 (by decide) ?_
          refine k_Ri (va_runS (As := [.int (nI i), .int (nI 0), .int (nI 1)]) (rest := [.ref (ad 3)]) hF (c_X4_at l i 0 1 (by omega) (by omega) (by omega)) (va_cwS 3 hts gX4_unsynced_X4_at rfl rfl rfl (by decide +kernel) ⟨(Nat.le_of_ble_eq_true rfl), (Nat.le_of_ble_eq_true rfl)⟩) k_preS rfl rfl hl.1 rfl (lv_room (Nat.le_of_ble_eq_true rfl)) dX4_unsynced_98 ⟨Nat.zero_le _, Nat.zero_le _⟩) ?_
          refine r_topi (show (nI (6 * i + 2 * 0 + 1) : Int32) = nI (6 * i + 1) from congrArg nI (by omega)) ?_
          refine r_iald hx hb hK hP 3 0 (by omega) mF_3 rfl (i := 6 * i + 1) (by omega) (by decide) dX4_unsynced_101 ?_
          refine lv_aload_n hx hb dX4_unsynced_102 rfl (lv_at hl 2 rfl) ?_
          refine lv_iload_n hx hb dX4_unsynced_103 rfl (lv_at hl 5 rfl) ?_
          refine lv_iconst (v := nI 1) hx hb dX4_unsynced_104 (by decide) ?_
          refine k_Ri (va_runV (As := [.int (nI i), .int (nI 1)]) (rest := [.int (y 3 (6 * i + 1))]) hF (c_X4_mergedOf l D cI cA ad (nI 0) n y i 1 (by omega) (by omega)) (cwV 2 hts gX4_unsynced_X4_mergedOf rfl rfl rfl (by decide +kernel) ⟨(Nat.le_of_ble_eq_true rfl), (Nat.le_of_ble_eq_true rfl)⟩) (k_pre hP hK hD hT (k := 0) (by decide) mF_0 rfl) rfl rfl hl.1 rfl (lv_room (Nat.le_of_ble_eq_true rfl)) dX4_unsynced_105 ⟨Nat.zero_le _, Nat.zero_le _⟩) ?_
          refine lv_icmp_ne (tgt := 115) hx hb dX4_unsynced_108 (by decide) (fun h108_23 => ?_) (fun h108_23 => ?_)
          · refine lv_iconst (v := nI 0) hx hb dX4_unsynced_115 (by decide) ?_
            refine lv_istore (lv' := [(4, .int (nI 0)), (5, .int (nI 0)), (0, .ref (ad 0)), (1, .int b), (2, .int (musC y b i)), (3, .int (nI i))]) hx hb dX4_unsynced_116 hl (by decide) rfl (fun ls hl => ?_)
            refine r_iincN (k := 1) (a := 0) (d := 1) (r := 1) (lv' := [(5, .int (nI 1)), (4, .int (nI 0)), (0, .ref (ad 0)), (1, .int b), (2, .int (musC y b i)), (3, .int (nI i))]) hx hb dX4_unsynced_118 hl rfl (by omega) (by decide) rfl (fun ls hl => ?_)
            refine lv_goto (tgt := 39) hx hb dX4_unsynced_121 (by decide) ?_
            refine lv_iload hx hb dX4_unsynced_39 (lv_at hl 0 rfl) ?_
            refine lv_iconst (v := nI 3) hx hb dX4_unsynced_41 (by decide) ?_
            refine r_cgeN (a := 1) (b := 3) (tgt := 124) hx hb (by omega) (by omega) dX4_unsynced_42 (by decide) (fun h => absurd h (by omega)) (fun _ => ?_)
            refine lv_iload hx hb dX4_unsynced_45 (lv_at hl 1 rfl) ?_
            refine r_ifeqN (a := 0) (tgt := 115) hx hb (by omega) dX4_unsynced_47 (by decide) (fun _ => ?_) (fun h => absurd h (by omega))
            refine lv_iconst (v := nI 0) hx hb dX4_unsynced_115 (by decide) ?_
            refine lv_istore (lv' := [(4, .int (nI 0)), (5, .int (nI 1)), (0, .ref (ad 0)), (1, .int b), (2, .int (musC y b i)), (3, .int (nI i))]) hx hb dX4_unsynced_116 hl (by decide) rfl (fun ls hl => ?_)
            refine r_iincN (k := 1) (a := 1) (d := 1) (r := 2) (lv' := [(5, .int (nI 2)), (4, .int (nI 0)), (0, .ref (ad 0)), (1, .int b), (2, .int (musC y b i)), (3, .int (nI i))]) hx hb dX4_unsynced_118 hl rfl (by omega) (by decide) rfl (fun ls hl => ?_)
            refine lv_goto (tgt := 39) hx hb dX4_unsynced_121 (by decide) ?_
            refine lv_iload hx hb dX4_unsynced_39 (lv_at hl 0 rfl) ?_
            refine lv_iconst (v := nI 3) hx hb dX4_unsynced_41 (by decide) ?_
            refine r_cgeN (a := 2) (b := 3) (tgt := 124) hx hb (by omega) (by omega) dX4_unsynced_42 (by decide) (fun h => absurd h (by omega)) (fun _ => ?_)
            refine lv_iload hx hb dX4_unsynced_45 (lv_at hl 1 rfl) ?_
            refine r_ifeqN (a := 0) (tgt := 115) hx hb (by omega) dX4_unsynced_47 (by decide) (fun _ => ?_) (fun h => absurd h (by omega))
            refine lv_iconst (v := nI 0) hx hb dX4_unsynced_115 (by decide) ?_
            refine lv_istore (lv' := [(4, .int (nI 0)), (5, .int (nI 2)), (0, .ref (ad 0)), (1, .int b), (2, .int (musC y b i)), (3, .int (nI i))]) hx hb dX4_unsynced_116 hl (by decide) rfl (fun ls hl => ?_)
            refine r_iincN (k := 1) (a := 2) (d := 1) (r := 3) (lv' := [(5, .int (nI 3)), (4, .int (nI 0)), (0, .ref (ad 0)), (1, .int b), (2, .int (musC y b i)), (3, .int (nI i))]) hx hb dX4_unsynced_118 hl rfl (by omega) (by decide) rfl (fun ls hl => ?_)
            refine lv_goto (tgt := 39) hx hb dX4_unsynced_121 (by decide) ?_
            refine lv_iload hx hb dX4_unsynced_39 (lv_at hl 0 rfl) ?_
            refine lv_iconst (v := nI 3) hx hb dX4_unsynced_41 (by decide) ?_
            refine r_cgeN (a := 3) (b := 3) (tgt := 124) hx hb (by omega) (by omega) dX4_unsynced_42 (by decide) (fun _ => ?_) (fun h => absurd h (by omega))
            refine lv_iload_n hx hb dX4_unsynced_124 rfl (lv_at hl 4 rfl) ?_
            refine lv_aload_n hx hb dX4_unsynced_125 rfl (lv_at hl 2 rfl) ?_
            refine r_get (C := RX4) (T := TX4) (M := 9) (index := 7) (fd := "book") (fo := "[I") hx hb hts (by decide +kernel) hown hK hP 0 (by decide) mF_0 rfl 1 (by decide) rfl (by decide +kernel) rfl dX4_unsynced_126 ?_
            refine lv_iload_n hx hb dX4_unsynced_129 rfl (lv_at hl 5 rfl) ?_
            refine r_iald hx hb hK hP 1 0 (by omega) (mF_a 1 (by omega)) rfl (i := i) (by omega) (by decide) dX4_unsynced_130 ?_
            refine lv_iload_n hx hb dX4_unsynced_131 rfl (lv_at hl 3 rfl) ?_
            refine lv_icmp_ne (tgt := 144) hx hb dX4_unsynced_132 (by decide) (fun h132_29 => ?_) (fun h132_29 => ?_)
            · refine lv_iconst (v := nI 0) hx hb dX4_unsynced_144 (by decide) ?_
              refine lv_iadd hx hb dX4_unsynced_145 ?_
              refine lv_istore_n (lv' := [(2, .int ((musC y b i) + (nI 0))), (5, .int (nI 3)), (4, .int (nI 0)), (0, .ref (ad 0)), (1, .int b), (3, .int (nI i))]) hx hb dX4_unsynced_146 rfl hl (by decide) rfl (fun ls hl => ?_)
              refine r_iincN (k := 5) (a := i) (d := 1) (r := i + 1) (lv' := [(3, .int (nI (i + 1))), (2, .int ((musC y b i) + (nI 0))), (5, .int (nI 3)), (4, .int (nI 0)), (0, .ref (ad 0)), (1, .int b)]) hx hb dX4_unsynced_147 hl rfl (by omega) (by decide) rfl (fun ls hl => ?_)
              refine lv_goto (tgt := 25) hx hb dX4_unsynced_150 (by decide) ?_
              exact ih25 _ _ hP hS _ (lv_cast (lv_sub (l' := [(0, .ref (ad 0)), (1, .int b), (2, .int ((musC y b i) + (nI 0))), (3, .int (nI (i + 1)))]) hl [4, 5, 1, 0] rfl) (by rw [show (musC y b (i + 1) : Int32) = (musC y b i) + (nI 0) from by simp [musC, msynB, h66_7, h87_15, h108_23, h132_29]]))
            · refine lv_iload hx hb dX4_unsynced_135 (lv_at hl 1 rfl) ?_
              refine r_ifneN (a := 0) (tgt := 144) hx hb (by omega) dX4_unsynced_137 (by decide) (fun h => absurd h (by omega)) (fun _ => ?_)
              refine lv_iconst (v := nI 1) hx hb dX4_unsynced_140 (by decide) ?_
              refine lv_goto (tgt := 145) hx hb dX4_unsynced_141 (by decide) ?_
              refine lv_iadd hx hb dX4_unsynced_145 ?_
              refine lv_istore_n (lv' := [(2, .int ((musC y b i) + (nI 1))), (5, .int (nI 3)), (4, .int (nI 0)), (0, .ref (ad 0)), (1, .int b), (3, .int (nI i))]) hx hb dX4_unsynced_146 rfl hl (by decide) rfl (fun ls hl => ?_)
              refine r_iincN (k := 5) (a := i) (d := 1) (r := i + 1) (lv' := [(3, .int (nI (i + 1))), (2, .int ((musC y b i) + (nI 1))), (5, .int (nI 3)), (4, .int (nI 0)), (0, .ref (ad 0)), (1, .int b)]) hx hb dX4_unsynced_147 hl rfl (by omega) (by decide) rfl (fun ls hl => ?_)
              refine lv_goto (tgt := 25) hx hb dX4_unsynced_150 (by decide) ?_
              exact ih25 _ _ hP hS _ (lv_cast (lv_sub (l' := [(0, .ref (ad 0)), (1, .int b), (2, .int ((musC y b i) + (nI 1))), (3, .int (nI (i + 1)))]) hl [4, 5, 1, 0] rfl) (by rw [show (musC y b (i + 1) : Int32) = (musC y b i) + (nI 1) from by simp [musC, msynB, h66_7, h87_15, h108_23, h132_29]]))
          · refine lv_iconst (v := nI 1) hx hb dX4_unsynced_111 (by decide) ?_
            refine lv_goto (tgt := 116) hx hb dX4_unsynced_112 (by decide) ?_
            refine lv_istore (lv' := [(4, .int (nI 1)), (5, .int (nI 0)), (0, .ref (ad 0)), (1, .int b), (2, .int (musC y b i)), (3, .int (nI i))]) hx hb dX4_unsynced_116 hl (by decide) rfl (fun ls hl => ?_)
            refine r_iincN (k := 1) (a := 0) (d := 1) (r := 1) (lv' := [(5, .int (nI 1)), (4, .int (nI 1)), (0, .ref (ad 0)), (1, .int b), (2, .int (musC y b i)), (3, .int (nI i))]) hx hb dX4_unsynced_118 hl rfl (by omega) (by decide) rfl (fun ls hl => ?_)
            refine lv_goto (tgt := 39) hx hb dX4_unsynced_121 (by decide) ?_
            refine lv_iload hx hb dX4_unsynced_39 (lv_at hl 0 rfl) ?_
            refine lv_iconst (v := nI 3) hx hb dX4_unsynced_41 (by decide) ?_
            refine r_cgeN (a := 1) (b := 3) (tgt := 124) hx hb (by omega) (by omega) dX4_unsynced_42 (by decide) (fun h => absurd h (by omega)) (fun _ => ?_)
            refine lv_iload hx hb dX4_unsynced_45 (lv_at hl 1 rfl) ?_
            refine r_ifeqN (a := 1) (tgt := 115) hx hb (by omega) dX4_unsynced_47 (by decide) (fun h => absurd h (by omega)) (fun _ => ?_)
            refine lv_aload_n hx hb dX4_unsynced_50 rfl (lv_at hl 2 rfl) ?_
            refine r_get (C := RX4) (T := TX4) (M := 9) (index := 13) (fd := "name") (fo := "[I") hx hb hts (by decide +kernel) hown hK hP 0 (by decide) mF_0 rfl 2 (by decide) rfl (by decide +kernel) rfl dX4_unsynced_51 ?_
            refine lv_iconst (v := nI 3) hx hb dX4_unsynced_54 (by decide) ?_
            refine lv_iload_n hx hb dX4_unsynced_55 rfl (lv_at hl 5 rfl) ?_
            refine r_mulN (a := 3) (b := i) (r := 3 * i) hx hb dX4_unsynced_56 (by omega) ?_
            refine lv_iload hx hb dX4_unsynced_57 (lv_at hl 0 rfl) ?_
            refine r_addN (a := 3 * i) (b := 1) (r := 3 * i + 1) hx hb dX4_unsynced_59 (by omega) ?_
            refine r_iald hx hb hK hP 2 0 (by omega) mF_2 rfl (i := 3 * i + 1) (by omega) (by decide) dX4_unsynced_60 ?_
            refine lv_aload_n hx hb dX4_unsynced_61 rfl (lv_at hl 2 rfl) ?_
            refine lv_iload_n hx hb dX4_unsynced_62 rfl (lv_at hl 5 rfl) ?_
            refine k_Ri (va_runV (As := [.int (nI i)]) (rest := [.int (y 2 (3 * i + 1))]) hF (c_X4_mergedName l D cI cA ad (nI 0) n y i (by omega)) (cwV 1 hts gX4_unsynced_X4_mergedName rfl rfl rfl (by decide +kernel) ⟨(Nat.le_of_ble_eq_true rfl), (Nat.le_of_ble_eq_true rfl)⟩) (k_pre hP hK hD hT (k := 0) (by decide) mF_0 rfl) rfl rfl hl.1 rfl (lv_room (Nat.le_of_ble_eq_true rfl)) dX4_unsynced_63 ⟨Nat.zero_le _, Nat.zero_le _⟩) ?_
            refine lv_icmp_ne (tgt := 115) hx hb dX4_unsynced_66 (by decide) (fun h66_33 => ?_) (fun h66_33 => ?_)
            · refine lv_iconst (v := nI 0) hx hb dX4_unsynced_115 (by decide) ?_
              refine lv_istore (lv' := [(4, .int (nI 0)), (5, .int (nI 1)), (0, .ref (ad 0)), (1, .int b), (2, .int (musC y b i)), (3, .int (nI i))]) hx hb dX4_unsynced_116 hl (by decide) rfl (fun ls hl => ?_)
              refine r_iincN (k := 1) (a := 1) (d := 1) (r := 2) (lv' := [(5, .int (nI 2)), (4, .int (nI 0)), (0, .ref (ad 0)), (1, .int b), (2, .int (musC y b i)), (3, .int (nI i))]) hx hb dX4_unsynced_118 hl rfl (by omega) (by decide) rfl (fun ls hl => ?_)
              refine lv_goto (tgt := 39) hx hb dX4_unsynced_121 (by decide) ?_
              refine lv_iload hx hb dX4_unsynced_39 (lv_at hl 0 rfl) ?_
              refine lv_iconst (v := nI 3) hx hb dX4_unsynced_41 (by decide) ?_
              refine r_cgeN (a := 2) (b := 3) (tgt := 124) hx hb (by omega) (by omega) dX4_unsynced_42 (by decide) (fun h => absurd h (by omega)) (fun _ => ?_)
              refine lv_iload hx hb dX4_unsynced_45 (lv_at hl 1 rfl) ?_
              refine r_ifeqN (a := 0) (tgt := 115) hx hb (by omega) dX4_unsynced_47 (by decide) (fun _ => ?_) (fun h => absurd h (by omega))
              refine lv_iconst (v := nI 0) hx hb dX4_unsynced_115 (by decide) ?_
              refine lv_istore (lv' := [(4, .int (nI 0)), (5, .int (nI 2)), (0, .ref (ad 0)), (1, .int b), (2, .int (musC y b i)), (3, .int (nI i))]) hx hb dX4_unsynced_116 hl (by decide) rfl (fun ls hl => ?_)
              refine r_iincN (k := 1) (a := 2) (d := 1) (r := 3) (lv' := [(5, .int (nI 3)), (4, .int (nI 0)), (0, .ref (ad 0)), (1, .int b), (2, .int (musC y b i)), (3, .int (nI i))]) hx hb dX4_unsynced_118 hl rfl (by omega) (by decide) rfl (fun ls hl => ?_)
              refine lv_goto (tgt := 39) hx hb dX4_unsynced_121 (by decide) ?_
              refine lv_iload hx hb dX4_unsynced_39 (lv_at hl 0 rfl) ?_
              refine lv_iconst (v := nI 3) hx hb dX4_unsynced_41 (by decide) ?_
              refine r_cgeN (a := 3) (b := 3) (tgt := 124) hx hb (by omega) (by omega) dX4_unsynced_42 (by decide) (fun _ => ?_) (fun h => absurd h (by omega))
              refine lv_iload_n hx hb dX4_unsynced_124 rfl (lv_at hl 4 rfl) ?_
              refine lv_aload_n hx hb dX4_unsynced_125 rfl (lv_at hl 2 rfl) ?_
              refine r_get (C := RX4) (T := TX4) (M := 9) (index := 7) (fd := "book") (fo := "[I") hx hb hts (by decide +kernel) hown hK hP 0 (by decide) mF_0 rfl 1 (by decide) rfl (by decide +kernel) rfl dX4_unsynced_126 ?_
              refine lv_iload_n hx hb dX4_unsynced_129 rfl (lv_at hl 5 rfl) ?_
              refine r_iald hx hb hK hP 1 0 (by omega) (mF_a 1 (by omega)) rfl (i := i) (by omega) (by decide) dX4_unsynced_130 ?_
              refine lv_iload_n hx hb dX4_unsynced_131 rfl (lv_at hl 3 rfl) ?_
              refine lv_icmp_ne (tgt := 144) hx hb dX4_unsynced_132 (by decide) (fun h132_37 => ?_) (fun h132_37 => ?_)
              · refine lv_iconst (v := nI 0) hx hb dX4_unsynced_144 (by decide) ?_
                refine lv_iadd hx hb dX4_unsynced_145 ?_
                refine lv_istore_n (lv' := [(2, .int ((musC y b i) + (nI 0))), (5, .int (nI 3)), (4, .int (nI 0)), (0, .ref (ad 0)), (1, .int b), (3, .int (nI i))]) hx hb dX4_unsynced_146 rfl hl (by decide) rfl (fun ls hl => ?_)
                refine r_iincN (k := 5) (a := i) (d := 1) (r := i + 1) (lv' := [(3, .int (nI (i + 1))), (2, .int ((musC y b i) + (nI 0))), (5, .int (nI 3)), (4, .int (nI 0)), (0, .ref (ad 0)), (1, .int b)]) hx hb dX4_unsynced_147 hl rfl (by omega) (by decide) rfl (fun ls hl => ?_)
                refine lv_goto (tgt := 25) hx hb dX4_unsynced_150 (by decide) ?_
                exact ih25 _ _ hP hS _ (lv_cast (lv_sub (l' := [(0, .ref (ad 0)), (1, .int b), (2, .int ((musC y b i) + (nI 0))), (3, .int (nI (i + 1)))]) hl [4, 5, 1, 0] rfl) (by rw [show (musC y b (i + 1) : Int32) = (musC y b i) + (nI 0) from by simp [musC, msynB, h66_7, h87_15, h108_23, h66_33, h132_37]]))
              · refine lv_iload hx hb dX4_unsynced_135 (lv_at hl 1 rfl) ?_
                refine r_ifneN (a := 0) (tgt := 144) hx hb (by omega) dX4_unsynced_137 (by decide) (fun h => absurd h (by omega)) (fun _ => ?_)
                refine lv_iconst (v := nI 1) hx hb dX4_unsynced_140 (by decide) ?_
                refine lv_goto (tgt := 145) hx hb dX4_unsynced_141 (by decide) ?_
                refine lv_iadd hx hb dX4_unsynced_145 ?_
                refine lv_istore_n (lv' := [(2, .int ((musC y b i) + (nI 1))), (5, .int (nI 3)), (4, .int (nI 0)), (0, .ref (ad 0)), (1, .int b), (3, .int (nI i))]) hx hb dX4_unsynced_146 rfl hl (by decide) rfl (fun ls hl => ?_)
                refine r_iincN (k := 5) (a := i) (d := 1) (r := i + 1) (lv' := [(3, .int (nI (i + 1))), (2, .int ((musC y b i) + (nI 1))), (5, .int (nI 3)), (4, .int (nI 0)), (0, .ref (ad 0)), (1, .int b)]) hx hb dX4_unsynced_147 hl rfl (by omega) (by decide) rfl (fun ls hl => ?_)
                refine lv_goto (tgt := 25) hx hb dX4_unsynced_150 (by decide) ?_
                exact ih25 _ _ hP hS _ (lv_cast (lv_sub (l' := [(0, .ref (ad 0)), (1, .int b), (2, .int ((musC y b i) + (nI 1))), (3, .int (nI (i + 1)))]) hl [4, 5, 1, 0] rfl) (by rw [show (musC y b (i + 1) : Int32) = (musC y b i) + (nI 1) from by simp [musC, msynB, h66_7, h87_15, h108_23, h66_33, h132_37]]))
            · refine lv_aload_n hx hb dX4_unsynced_69 rfl (lv_at hl 2 rfl) ?_
              refine r_get (C := RX4) (T := TX4) (M := 9) (index := 16) (fd := "set") (fo := "[I") hx hb hts (by decide +kernel) hown hK hP 0 (by decide) mF_0 rfl 3 (by decide) rfl (by decide +kernel) rfl dX4_unsynced_70 ?_
              refine lv_iload_n hx hb dX4_unsynced_73 rfl (lv_at hl 5 rfl) ?_
              refine lv_iload hx hb dX4_unsynced_74 (lv_at hl 0 rfl) ?_
              refine lv_iconst (v := nI 0) hx hb dX4_unsynced_76 (by decide) ?_
              refine k_Ri (va_runS (As := [.int (nI i), .int (nI 1), .int (nI 0)]) (rest := [.ref (ad 3)]) hF (c_X4_at l i 1 0 (by omega) (by omega) (by omega)) (va_cwS 3 hts gX4_unsynced_X4_at rfl rfl rfl (by decide +kernel) ⟨(Nat.le_of_ble_eq_true rfl), (Nat.le_of_ble_eq_true rfl)⟩) k_preS rfl rfl hl.1 rfl (lv_room (Nat.le_of_ble_eq_true rfl)) dX4_unsynced_77 ⟨Nat.zero_le _, Nat.zero_le _⟩) ?_
              refine r_topi (show (nI (6 * i + 2 * 1 + 0) : Int32) = nI (6 * i + 2) from congrArg nI (by omega)) ?_
              refine r_iald hx hb hK hP 3 0 (by omega) mF_3 rfl (i := 6 * i + 2) (by omega) (by decide) dX4_unsynced_80 ?_
              refine lv_aload_n hx hb dX4_unsynced_81 rfl (lv_at hl 2 rfl) ?_
              refine lv_iload_n hx hb dX4_unsynced_82 rfl (lv_at hl 5 rfl) ?_
              refine lv_iconst (v := nI 0) hx hb dX4_unsynced_83 (by decide) ?_
              refine k_Ri (va_runV (As := [.int (nI i), .int (nI 0)]) (rest := [.int (y 3 (6 * i + 2))]) hF (c_X4_mergedOf l D cI cA ad (nI 0) n y i 0 (by omega) (by omega)) (cwV 2 hts gX4_unsynced_X4_mergedOf rfl rfl rfl (by decide +kernel) ⟨(Nat.le_of_ble_eq_true rfl), (Nat.le_of_ble_eq_true rfl)⟩) (k_pre hP hK hD hT (k := 0) (by decide) mF_0 rfl) rfl rfl hl.1 rfl (lv_room (Nat.le_of_ble_eq_true rfl)) dX4_unsynced_84 ⟨Nat.zero_le _, Nat.zero_le _⟩) ?_
              refine lv_icmp_ne (tgt := 115) hx hb dX4_unsynced_87 (by decide) (fun h87_39 => ?_) (fun h87_39 => ?_)
              · refine lv_iconst (v := nI 0) hx hb dX4_unsynced_115 (by decide) ?_
                refine lv_istore (lv' := [(4, .int (nI 0)), (5, .int (nI 1)), (0, .ref (ad 0)), (1, .int b), (2, .int (musC y b i)), (3, .int (nI i))]) hx hb dX4_unsynced_116 hl (by decide) rfl (fun ls hl => ?_)
                refine r_iincN (k := 1) (a := 1) (d := 1) (r := 2) (lv' := [(5, .int (nI 2)), (4, .int (nI 0)), (0, .ref (ad 0)), (1, .int b), (2, .int (musC y b i)), (3, .int (nI i))]) hx hb dX4_unsynced_118 hl rfl (by omega) (by decide) rfl (fun ls hl => ?_)
                refine lv_goto (tgt := 39) hx hb dX4_unsynced_121 (by decide) ?_
                refine lv_iload hx hb dX4_unsynced_39 (lv_at hl 0 rfl) ?_
                refine lv_iconst (v := nI 3) hx hb dX4_unsynced_41 (by decide) ?_
                refine r_cgeN (a := 2) (b := 3) (tgt := 124) hx hb (by omega) (by omega) dX4_unsynced_42 (by decide) (fun h => absurd h (by omega)) (fun _ => ?_)
                refine lv_iload hx hb dX4_unsynced_45 (lv_at hl 1 rfl) ?_
                refine r_ifeqN (a := 0) (tgt := 115) hx hb (by omega) dX4_unsynced_47 (by decide) (fun _ => ?_) (fun h => absurd h (by omega))
                refine lv_iconst (v := nI 0) hx hb dX4_unsynced_115 (by decide) ?_
                refine lv_istore (lv' := [(4, .int (nI 0)), (5, .int (nI 2)), (0, .ref (ad 0)), (1, .int b), (2, .int (musC y b i)), (3, .int (nI i))]) hx hb dX4_unsynced_116 hl (by decide) rfl (fun ls hl => ?_)
                refine r_iincN (k := 1) (a := 2) (d := 1) (r := 3) (lv' := [(5, .int (nI 3)), (4, .int (nI 0)), (0, .ref (ad 0)), (1, .int b), (2, .int (musC y b i)), (3, .int (nI i))]) hx hb dX4_unsynced_118 hl rfl (by omega) (by decide) rfl (fun ls hl => ?_)
                refine lv_goto (tgt := 39) hx hb dX4_unsynced_121 (by decide) ?_
                refine lv_iload hx hb dX4_unsynced_39 (lv_at hl 0 rfl) ?_
                refine lv_iconst (v := nI 3) hx hb dX4_unsynced_41 (by decide) ?_
                refine r_cgeN (a := 3) (b := 3) (tgt := 124) hx hb (by omega) (by omega) dX4_unsynced_42 (by decide) (fun _ => ?_) (fun h => absurd h (by omega))
                refine lv_iload_n hx hb dX4_unsynced_124 rfl (lv_at hl 4 rfl) ?_
                refine lv_aload_n hx hb dX4_unsynced_125 rfl (lv_at hl 2 rfl) ?_
                refine r_get (C := RX4) (T := TX4) (M := 9) (index := 7) (fd := "book") (fo := "[I") hx hb hts (by decide +kernel) hown hK hP 0 (by decide) mF_0 rfl 1 (by decide) rfl (by decide +kernel) rfl dX4_unsynced_126 ?_
                refine lv_iload_n hx hb dX4_unsynced_129 rfl (lv_at hl 5 rfl) ?_
                refine r_iald hx hb hK hP 1 0 (by omega) (mF_a 1 (by omega)) rfl (i := i) (by omega) (by decide) dX4_unsynced_130 ?_
                refine lv_iload_n hx hb dX4_unsynced_131 rfl (lv_at hl 3 rfl) ?_
                refine lv_icmp_ne (tgt := 144) hx hb dX4_unsynced_132 (by decide) (fun h132_43 => ?_) (fun h132_43 => ?_)
                · refine lv_iconst (v := nI 0) hx hb dX4_unsynced_144 (by decide) ?_
                  refine lv_iadd hx hb dX4_unsynced_145 ?_
                  refine lv_istore_n (lv' := [(2, .int ((musC y b i) + (nI 0))), (5, .int (nI 3)), (4, .int (nI 0)), (0, .ref (ad 0)), (1, .int b), (3, .int (nI i))]) hx hb dX4_unsynced_146 rfl hl (by decide) rfl (fun ls hl => ?_)
                  refine r_iincN (k := 5) (a := i) (d := 1) (r := i + 1) (lv' := [(3, .int (nI (i + 1))), (2, .int ((musC y b i) + (nI 0))), (5, .int (nI 3)), (4, .int (nI 0)), (0, .ref (ad 0)), (1, .int b)]) hx hb dX4_unsynced_147 hl rfl (by omega) (by decide) rfl (fun ls hl => ?_)
                  refine lv_goto (tgt := 25) hx hb dX4_unsynced_150 (by decide) ?_
                  exact ih25 _ _ hP hS _ (lv_cast (lv_sub (l' := [(0, .ref (ad 0)), (1, .int b), (2, .int ((musC y b i) + (nI 0))), (3, .int (nI (i + 1)))]) hl [4, 5, 1, 0] rfl) (by rw [show (musC y b (i + 1) : Int32) = (musC y b i) + (nI 0) from by simp [musC, msynB, h66_7, h87_15, h108_23, h66_33, h87_39, h132_43]]))
                · refine lv_iload hx hb dX4_unsynced_135 (lv_at hl 1 rfl) ?_
                  refine r_ifneN (a := 0) (tgt := 144) hx hb (by omega) dX4_unsynced_137 (by decide) (fun h => absurd h (by omega)) (fun _ => ?_)
                  refine lv_iconst (v := nI 1) hx hb dX4_unsynced_140 (by decide) ?_
                  refine lv_goto (tgt := 145) hx hb dX4_unsynced_141 (by decide) ?_
                  refine lv_iadd hx hb dX4_unsynced_145 ?_
                  refine lv_istore_n (lv' := [(2, .int ((musC y b i) + (nI 1))), (5, .int (nI 3)), (4, .int (nI 0)), (0, .ref (ad 0)), (1, .int b), (3, .int (nI i))]) hx hb dX4_unsynced_146 rfl hl (by decide) rfl (fun ls hl => ?_)
                  refine r_iincN (k := 5) (a := i) (d := 1) (r := i + 1) (lv' := [(3, .int (nI (i + 1))), (2, .int ((musC y b i) + (nI 1))), (5, .int (nI 3)), (4, .int (nI 0)), (0, .ref (ad 0)), (1, .int b)]) hx hb dX4_unsynced_147 hl rfl (by omega) (by decide) rfl (fun ls hl => ?_)
                  refine lv_goto (tgt := 25) hx hb dX4_unsynced_150 (by decide) ?_
                  exact ih25 _ _ hP hS _ (lv_cast (lv_sub (l' := [(0, .ref (ad 0)), (1, .int b), (2, .int ((musC y b i) + (nI 1))), (3, .int (nI (i + 1)))]) hl [4, 5, 1, 0] rfl) (by rw [show (musC y b (i + 1) : Int32) = (musC y b i) + (nI 1) from by simp [musC, msynB, h66_7, h87_15, h108_23, h66_33, h87_39, h132_43]]))
              · refine lv_aload_n hx hb dX4_unsynced_90 rfl (lv_at hl 2 rfl) ?_
                refine r_get (C := RX4) (T := TX4) (M := 9) (index := 16) (fd := "set") (fo := "[I") hx hb hts (by decide +kernel) hown hK hP 0 (by decide) mF_0 rfl 3 (by decide) rfl (by decide +kernel) rfl dX4_unsynced_91 ?_
                refine lv_iload_n hx hb dX4_unsynced_94 rfl (lv_at hl 5 rfl) ?_
                refine lv_iload hx hb dX4_unsynced_95 (lv_at hl 0 rfl) ?_
                refine lv_iconst (v := nI 1) hx hb dX4_unsynced_97 (by decide) ?_
                refine k_Ri (va_runS (As := [.int (nI i), .int (nI 1), .int (nI 1)]) (rest := [.ref (ad 3)]) hF (c_X4_at l i 1 1 (by omega) (by omega) (by omega)) (va_cwS 3 hts gX4_unsynced_X4_at rfl rfl rfl (by decide +kernel) ⟨(Nat.le_of_ble_eq_true rfl), (Nat.le_of_ble_eq_true rfl)⟩) k_preS rfl rfl hl.1 rfl (lv_room (Nat.le_of_ble_eq_true rfl)) dX4_unsynced_98 ⟨Nat.zero_le _, Nat.zero_le _⟩) ?_
                refine r_topi (show (nI (6 * i + 2 * 1 + 1) : Int32) = nI (6 * i + 3) from congrArg nI (by omega)) ?_
                refine r_iald hx hb hK hP 3 0 (by omega) mF_3 rfl (i := 6 * i + 3) (by omega) (by decide) dX4_unsynced_101 ?_
                refine lv_aload_n hx hb dX4_unsynced_102 rfl (lv_at hl 2 rfl) ?_
                refine lv_iload_n hx hb dX4_unsynced_103 rfl (lv_at hl 5 rfl) ?_
                refine lv_iconst (v := nI 1) hx hb dX4_unsynced_104 (by decide) ?_
                refine k_Ri (va_runV (As := [.int (nI i), .int (nI 1)]) (rest := [.int (y 3 (6 * i + 3))]) hF (c_X4_mergedOf l D cI cA ad (nI 0) n y i 1 (by omega) (by omega)) (cwV 2 hts gX4_unsynced_X4_mergedOf rfl rfl rfl (by decide +kernel) ⟨(Nat.le_of_ble_eq_true rfl), (Nat.le_of_ble_eq_true rfl)⟩) (k_pre hP hK hD hT (k := 0) (by decide) mF_0 rfl) rfl rfl hl.1 rfl (lv_room (Nat.le_of_ble_eq_true rfl)) dX4_unsynced_105 ⟨Nat.zero_le _, Nat.zero_le _⟩) ?_
                refine lv_icmp_ne (tgt := 115) hx hb dX4_unsynced_108 (by decide) (fun h108_45 => ?_) (fun h108_45 => ?_)
                · refine lv_iconst (v := nI 0) hx hb dX4_unsynced_115 (by decide) ?_
                  refine lv_istore (lv' := [(4, .int (nI 0)), (5, .int (nI 1)), (0, .ref (ad 0)), (1, .int b), (2, .int (musC y b i)), (3, .int (nI i))]) hx hb dX4_unsynced_116 hl (by decide) rfl (fun ls hl => ?_)
                  refine r_iincN (k := 1) (a := 1) (d := 1) (r := 2) (lv' := [(5, .int (nI 2)), (4, .int (nI 0)), (0, .ref (ad 0)), (1, .int b), (2, .int (musC y b i)), (3, .int (nI i))]) hx hb dX4_unsynced_118 hl rfl (by omega) (by decide) rfl (fun ls hl => ?_)
                  refine lv_goto (tgt := 39) hx hb dX4_unsynced_121 (by decide) ?_
                  refine lv_iload hx hb dX4_unsynced_39 (lv_at hl 0 rfl) ?_
                  refine lv_iconst (v := nI 3) hx hb dX4_unsynced_41 (by decide) ?_
                  refine r_cgeN (a := 2) (b := 3) (tgt := 124) hx hb (by omega) (by omega) dX4_unsynced_42 (by decide) (fun h => absurd h (by omega)) (fun _ => ?_)
                  refine lv_iload hx hb dX4_unsynced_45 (lv_at hl 1 rfl) ?_
                  refine r_ifeqN (a := 0) (tgt := 115) hx hb (by omega) dX4_unsynced_47 (by decide) (fun _ => ?_) (fun h => absurd h (by omega))
                  refine lv_iconst (v := nI 0) hx hb dX4_unsynced_115 (by decide) ?_
                  refine lv_istore (lv' := [(4, .int (nI 0)), (5, .int (nI 2)), (0, .ref (ad 0)), (1, .int b), (2, .int (musC y b i)), (3, .int (nI i))]) hx hb dX4_unsynced_116 hl (by decide) rfl (fun ls hl => ?_)
                  refine r_iincN (k := 1) (a := 2) (d := 1) (r := 3) (lv' := [(5, .int (nI 3)), (4, .int (nI 0)), (0, .ref (ad 0)), (1, .int b), (2, .int (musC y b i)), (3, .int (nI i))]) hx hb dX4_unsynced_118 hl rfl (by omega) (by decide) rfl (fun ls hl => ?_)
                  refine lv_goto (tgt := 39) hx hb dX4_unsynced_121 (by decide) ?_
                  refine lv_iload hx hb dX4_unsynced_39 (lv_at hl 0 rfl) ?_
                  refine lv_iconst (v := nI 3) hx hb dX4_unsynced_41 (by decide) ?_
                  refine r_cgeN (a := 3) (b := 3) (tgt := 124) hx hb (by omega) (by omega) dX4_unsynced_42 (by decide) (fun _ => ?_) (fun h => absurd h (by omega))
                  refine lv_iload_n hx hb dX4_unsynced_124 rfl (lv_at hl 4 rfl) ?_
                  refine lv_aload_n hx hb dX4_unsynced_125 rfl (lv_at hl 2 rfl) ?_
                  refine r_get (C := RX4) (T := TX4) (M := 9) (index := 7) (fd := "book") (fo := "[I") hx hb hts (by decide +kernel) hown hK hP 0 (by decide) mF_0 rfl 1 (by decide) rfl (by decide +kernel) rfl dX4_unsynced_126 ?_
                  refine lv_iload_n hx hb dX4_unsynced_129 rfl (lv_at hl 5 rfl) ?_
                  refine r_iald hx hb hK hP 1 0 (by omega) (mF_a 1 (by omega)) rfl (i := i) (by omega) (by decide) dX4_unsynced_130 ?_
                  refine lv_iload_n hx hb dX4_unsynced_131 rfl (lv_at hl 3 rfl) ?_
                  refine lv_icmp_ne (tgt := 144) hx hb dX4_unsynced_132 (by decide) (fun h132_49 => ?_) (fun h132_49 => ?_)
                  · refine lv_iconst (v := nI 0) hx hb dX4_unsynced_144 (by decide) ?_
                    refine lv_iadd hx hb dX4_unsynced_145 ?_
                    refine lv_istore_n (lv' := [(2, .int ((musC y b i) + (nI 0))), (5, .int (nI 3)), (4, .int (nI 0)), (0, .ref (ad 0)), (1, .int b), (3, .int (nI i))]) hx hb dX4_unsynced_146 rfl hl (by decide) rfl (fun ls hl => ?_)
                    refine r_iincN (k := 5) (a := i) (d := 1) (r := i + 1) (lv' := [(3, .int (nI (i + 1))), (2, .int ((musC y b i) + (nI 0))), (5, .int (nI 3)), (4, .int (nI 0)), (0, .ref (ad 0)), (1, .int b)]) hx hb dX4_unsynced_147 hl rfl (by omega) (by decide) rfl (fun ls hl => ?_)
                    refine lv_goto (tgt := 25) hx hb dX4_unsynced_150 (by decide) ?_
                    exact ih25 _ _ hP hS _ (lv_cast (lv_sub (l' := [(0, .ref (ad 0)), (1, .int b), (2, .int ((musC y b i) + (nI 0))), (3, .int (nI (i + 1)))]) hl [4, 5, 1, 0] rfl) (by rw [show (musC y b (i + 1) : Int32) = (musC y b i) + (nI 0) from by simp [musC, msynB, h66_7, h87_15, h108_23, h66_33, h87_39, h108_45, h132_49]]))
                  · refine lv_iload hx hb dX4_unsynced_135 (lv_at hl 1 rfl) ?_
                    refine r_ifneN (a := 0) (tgt := 144) hx hb (by omega) dX4_unsynced_137 (by decide) (fun h => absurd h (by omega)) (fun _ => ?_)
                    refine lv_iconst (v := nI 1) hx hb dX4_unsynced_140 (by decide) ?_
                    refine lv_goto (tgt := 145) hx hb dX4_unsynced_141 (by decide) ?_
                    refine lv_iadd hx hb dX4_unsynced_145 ?_
                    refine lv_istore_n (lv' := [(2, .int ((musC y b i) + (nI 1))), (5, .int (nI 3)), (4, .int (nI 0)), (0, .ref (ad 0)), (1, .int b), (3, .int (nI i))]) hx hb dX4_unsynced_146 rfl hl (by decide) rfl (fun ls hl => ?_)
                    refine r_iincN (k := 5) (a := i) (d := 1) (r := i + 1) (lv' := [(3, .int (nI (i + 1))), (2, .int ((musC y b i) + (nI 1))), (5, .int (nI 3)), (4, .int (nI 0)), (0, .ref (ad 0)), (1, .int b)]) hx hb dX4_unsynced_147 hl rfl (by omega) (by decide) rfl (fun ls hl => ?_)
                    refine lv_goto (tgt := 25) hx hb dX4_unsynced_150 (by decide) ?_
                    exact ih25 _ _ hP hS _ (lv_cast (lv_sub (l' := [(0, .ref (ad 0)), (1, .int b), (2, .int ((musC y b i) + (nI 1))), (3, .int (nI (i + 1)))]) hl [4, 5, 1, 0] rfl) (by rw [show (musC y b (i + 1) : Int32) = (musC y b i) + (nI 1) from by simp [musC, msynB, h66_7, h87_15, h108_23, h66_33, h87_39, h108_45, h132_49]]))
                · refine lv_iconst (v := nI 1) hx hb dX4_unsynced_111 (by decide) ?_
                  refine lv_goto (tgt := 116) hx hb dX4_unsynced_112 (by decide) ?_
                  refine lv_istore (lv' := [(4, .int (nI 1)), (5, .int (nI 1)), (0, .ref (ad 0)), (1, .int b), (2, .int (musC y b i)), (3, .int (nI i))]) hx hb dX4_unsynced_116 hl (by decide) rfl (fun ls hl => ?_)
                  refine r_iincN (k := 1) (a := 1) (d := 1) (r := 2) (lv' := [(5, .int (nI 2)), (4, .int (nI 1)), (0, .ref (ad 0)), (1, .int b), (2, .int (musC y b i)), (3, .int (nI i))]) hx hb dX4_unsynced_118 hl rfl (by omega) (by decide) rfl (fun ls hl => ?_)
                  refine lv_goto (tgt := 39) hx hb dX4_unsynced_121 (by decide) ?_
                  refine lv_iload hx hb dX4_unsynced_39 (lv_at hl 0 rfl) ?_
                  refine lv_iconst (v := nI 3) hx hb dX4_unsynced_41 (by decide) ?_
                  refine r_cgeN (a := 2) (b := 3) (tgt := 124) hx hb (by omega) (by omega) dX4_unsynced_42 (by decide) (fun h => absurd h (by omega)) (fun _ => ?_)
                  refine lv_iload hx hb dX4_unsynced_45 (lv_at hl 1 rfl) ?_
                  refine r_ifeqN (a := 1) (tgt := 115) hx hb (by omega) dX4_unsynced_47 (by decide) (fun h => absurd h (by omega)) (fun _ => ?_)
                  refine lv_aload_n hx hb dX4_unsynced_50 rfl (lv_at hl 2 rfl) ?_
                  refine r_get (C := RX4) (T := TX4) (M := 9) (index := 13) (fd := "name") (fo := "[I") hx hb hts (by decide +kernel) hown hK hP 0 (by decide) mF_0 rfl 2 (by decide) rfl (by decide +kernel) rfl dX4_unsynced_51 ?_
                  refine lv_iconst (v := nI 3) hx hb dX4_unsynced_54 (by decide) ?_
                  refine lv_iload_n hx hb dX4_unsynced_55 rfl (lv_at hl 5 rfl) ?_
                  refine r_mulN (a := 3) (b := i) (r := 3 * i) hx hb dX4_unsynced_56 (by omega) ?_
                  refine lv_iload hx hb dX4_unsynced_57 (lv_at hl 0 rfl) ?_
                  refine r_addN (a := 3 * i) (b := 2) (r := 3 * i + 2) hx hb dX4_unsynced_59 (by omega) ?_
                  refine r_iald hx hb hK hP 2 0 (by omega) mF_2 rfl (i := 3 * i + 2) (by omega) (by decide) dX4_unsynced_60 ?_
                  refine lv_aload_n hx hb dX4_unsynced_61 rfl (lv_at hl 2 rfl) ?_
                  refine lv_iload_n hx hb dX4_unsynced_62 rfl (lv_at hl 5 rfl) ?_
                  refine k_Ri (va_runV (As := [.int (nI i)]) (rest := [.int (y 2 (3 * i + 2))]) hF (c_X4_mergedName l D cI cA ad (nI 0) n y i (by omega)) (cwV 1 hts gX4_unsynced_X4_mergedName rfl rfl rfl (by decide +kernel) ⟨(Nat.le_of_ble_eq_true rfl), (Nat.le_of_ble_eq_true rfl)⟩) (k_pre hP hK hD hT (k := 0) (by decide) mF_0 rfl) rfl rfl hl.1 rfl (lv_room (Nat.le_of_ble_eq_true rfl)) dX4_unsynced_63 ⟨Nat.zero_le _, Nat.zero_le _⟩) ?_
                  refine lv_icmp_ne (tgt := 115) hx hb dX4_unsynced_66 (by decide) (fun h66_53 => ?_) (fun h66_53 => ?_)
                  · refine lv_iconst (v := nI 0) hx hb dX4_unsynced_115 (by decide) ?_
                    refine lv_istore (lv' := [(4, .int (nI 0)), (5, .int (nI 2)), (0, .ref (ad 0)), (1, .int b), (2, .int (musC y b i)), (3, .int (nI i))]) hx hb dX4_unsynced_116 hl (by decide) rfl (fun ls hl => ?_)
                    refine r_iincN (k := 1) (a := 2) (d := 1) (r := 3) (lv' := [(5, .int (nI 3)), (4, .int (nI 0)), (0, .ref (ad 0)), (1, .int b), (2, .int (musC y b i)), (3, .int (nI i))]) hx hb dX4_unsynced_118 hl rfl (by omega) (by decide) rfl (fun ls hl => ?_)
                    refine lv_goto (tgt := 39) hx hb dX4_unsynced_121 (by decide) ?_
                    refine lv_iload hx hb dX4_unsynced_39 (lv_at hl 0 rfl) ?_
                    refine lv_iconst (v := nI 3) hx hb dX4_unsynced_41 (by decide) ?_
                    refine r_cgeN (a := 3) (b := 3) (tgt := 124) hx hb (by omega) (by omega) dX4_unsynced_42 (by decide) (fun _ => ?_) (fun h => absurd h (by omega))
                    refine lv_iload_n hx hb dX4_unsynced_124 rfl (lv_at hl 4 rfl) ?_
                    refine lv_aload_n hx hb dX4_unsynced_125 rfl (lv_at hl 2 rfl) ?_
                    refine r_get (C := RX4) (T := TX4) (M := 9) (index := 7) (fd := "book") (fo := "[I") hx hb hts (by decide +kernel) hown hK hP 0 (by decide) mF_0 rfl 1 (by decide) rfl (by decide +kernel) rfl dX4_unsynced_126 ?_
                    refine lv_iload_n hx hb dX4_unsynced_129 rfl (lv_at hl 5 rfl) ?_
                    refine r_iald hx hb hK hP 1 0 (by omega) (mF_a 1 (by omega)) rfl (i := i) (by omega) (by decide) dX4_unsynced_130 ?_
                    refine lv_iload_n hx hb dX4_unsynced_131 rfl (lv_at hl 3 rfl) ?_
                    refine lv_icmp_ne (tgt := 144) hx hb dX4_unsynced_132 (by decide) (fun h132_55 => ?_) (fun h132_55 => ?_)
                    · refine lv_iconst (v := nI 0) hx hb dX4_unsynced_144 (by decide) ?_
                      refine lv_iadd hx hb dX4_unsynced_145 ?_
                      refine lv_istore_n (lv' := [(2, .int ((musC y b i) + (nI 0))), (5, .int (nI 3)), (4, .int (nI 0)), (0, .ref (ad 0)), (1, .int b), (3, .int (nI i))]) hx hb dX4_unsynced_146 rfl hl (by decide) rfl (fun ls hl => ?_)
                      refine r_iincN (k := 5) (a := i) (d := 1) (r := i + 1) (lv' := [(3, .int (nI (i + 1))), (2, .int ((musC y b i) + (nI 0))), (5, .int (nI 3)), (4, .int (nI 0)), (0, .ref (ad 0)), (1, .int b)]) hx hb dX4_unsynced_147 hl rfl (by omega) (by decide) rfl (fun ls hl => ?_)
                      refine lv_goto (tgt := 25) hx hb dX4_unsynced_150 (by decide) ?_
                      exact ih25 _ _ hP hS _ (lv_cast (lv_sub (l' := [(0, .ref (ad 0)), (1, .int b), (2, .int ((musC y b i) + (nI 0))), (3, .int (nI (i + 1)))]) hl [4, 5, 1, 0] rfl) (by rw [show (musC y b (i + 1) : Int32) = (musC y b i) + (nI 0) from by simp [musC, msynB, h66_7, h87_15, h108_23, h66_33, h87_39, h108_45, h66_53, h132_55]]))
                    · refine lv_iload hx hb dX4_unsynced_135 (lv_at hl 1 rfl) ?_
                      refine r_ifneN (a := 0) (tgt := 144) hx hb (by omega) dX4_unsynced_137 (by decide) (fun h => absurd h (by omega)) (fun _ => ?_)
                      refine lv_iconst (v := nI 1) hx hb dX4_unsynced_140 (by decide) ?_
                      refine lv_goto (tgt := 145) hx hb dX4_unsynced_141 (by decide) ?_
                      refine lv_iadd hx hb dX4_unsynced_145 ?_
                      refine lv_istore_n (lv' := [(2, .int ((musC y b i) + (nI 1))), (5, .int (nI 3)), (4, .int (nI 0)), (0, .ref (ad 0)), (1, .int b), (3, .int (nI i))]) hx hb dX4_unsynced_146 rfl hl (by decide) rfl (fun ls hl => ?_)
                      refine r_iincN (k := 5) (a := i) (d := 1) (r := i + 1) (lv' := [(3, .int (nI (i + 1))), (2, .int ((musC y b i) + (nI 1))), (5, .int (nI 3)), (4, .int (nI 0)), (0, .ref (ad 0)), (1, .int b)]) hx hb dX4_unsynced_147 hl rfl (by omega) (by decide) rfl (fun ls hl => ?_)
                      refine lv_goto (tgt := 25) hx hb dX4_unsynced_150 (by decide) ?_
                      exact ih25 _ _ hP hS _ (lv_cast (lv_sub (l' := [(0, .ref (ad 0)), (1, .int b), (2, .int ((musC y b i) + (nI 1))), (3, .int (nI (i + 1)))]) hl [4, 5, 1, 0] rfl) (by rw [show (musC y b (i + 1) : Int32) = (musC y b i) + (nI 1) from by simp [musC, msynB, h66_7, h87_15, h108_23, h66_33, h87_39, h108_45, h66_53, h132_55]]))
                  · refine lv_aload_n hx hb dX4_unsynced_69 rfl (lv_at hl 2 rfl) ?_
                    refine r_get (C := RX4) (T := TX4) (M := 9) (index := 16) (fd := "set") (fo := "[I") hx hb hts (by decide +kernel) hown hK hP 0 (by decide) mF_0 rfl 3 (by decide) rfl (by decide +kernel) rfl dX4_unsynced_70 ?_
                    refine lv_iload_n hx hb dX4_unsynced_73 rfl (lv_at hl 5 rfl) ?_
                    refine lv_iload hx hb dX4_unsynced_74 (lv_at hl 0 rfl) ?_
                    refine lv_iconst (v := nI 0) hx hb dX4_unsynced_76 (by decide) ?_
                    refine k_Ri (va_runS (As := [.int (nI i), .int (nI 2), .int (nI 0)]) (rest := [.ref (ad 3)]) hF (c_X4_at l i 2 0 (by omega) (by omega) (by omega)) (va_cwS 3 hts gX4_unsynced_X4_at rfl rfl rfl (by decide +kernel) ⟨(Nat.le_of_ble_eq_true rfl), (Nat.le_of_ble_eq_true rfl)⟩) k_preS rfl rfl hl.1 rfl (lv_room (Nat.le_of_ble_eq_true rfl)) dX4_unsynced_77 ⟨Nat.zero_le _, Nat.zero_le _⟩) ?_
                    refine r_topi (show (nI (6 * i + 2 * 2 + 0) : Int32) = nI (6 * i + 4) from congrArg nI (by omega)) ?_
                    refine r_iald hx hb hK hP 3 0 (by omega) mF_3 rfl (i := 6 * i + 4) (by omega) (by decide) dX4_unsynced_80 ?_
                    refine lv_aload_n hx hb dX4_unsynced_81 rfl (lv_at hl 2 rfl) ?_
                    refine lv_iload_n hx hb dX4_unsynced_82 rfl (lv_at hl 5 rfl) ?_
                    refine lv_iconst (v := nI 0) hx hb dX4_unsynced_83 (by decide) ?_
                    refine k_Ri (va_runV (As := [.int (nI i), .int (nI 0)]) (rest := [.int (y 3 (6 * i + 4))]) hF (c_X4_mergedOf l D cI cA ad (nI 0) n y i 0 (by omega) (by omega)) (cwV 2 hts gX4_unsynced_X4_mergedOf rfl rfl rfl (by decide +kernel) ⟨(Nat.le_of_ble_eq_true rfl), (Nat.le_of_ble_eq_true rfl)⟩) (k_pre hP hK hD hT (k := 0) (by decide) mF_0 rfl) rfl rfl hl.1 rfl (lv_room (Nat.le_of_ble_eq_true rfl)) dX4_unsynced_84 ⟨Nat.zero_le _, Nat.zero_le _⟩) ?_
                    refine lv_icmp_ne (tgt := 115) hx hb dX4_unsynced_87 (by decide) (fun h87_57 => ?_) (fun h87_57 => ?_)
                    · refine lv_iconst (v := nI 0) hx hb dX4_unsynced_115 (by decide) ?_
                      refine lv_istore (lv' := [(4, .int (nI 0)), (5, .int (nI 2)), (0, .ref (ad 0)), (1, .int b), (2, .int (musC y b i)), (3, .int (nI i))]) hx hb dX4_unsynced_116 hl (by decide) rfl (fun ls hl => ?_)
                      refine r_iincN (k := 1) (a := 2) (d := 1) (r := 3) (lv' := [(5, .int (nI 3)), (4, .int (nI 0)), (0, .ref (ad 0)), (1, .int b), (2, .int (musC y b i)), (3, .int (nI i))]) hx hb dX4_unsynced_118 hl rfl (by omega) (by decide) rfl (fun ls hl => ?_)
                      refine lv_goto (tgt := 39) hx hb dX4_unsynced_121 (by decide) ?_
                      refine lv_iload hx hb dX4_unsynced_39 (lv_at hl 0 rfl) ?_
                      refine lv_iconst (v := nI 3) hx hb dX4_unsynced_41 (by decide) ?_
                      refine r_cgeN (a := 3) (b := 3) (tgt := 124) hx hb (by omega) (by omega) dX4_unsynced_42 (by decide) (fun _ => ?_) (fun h => absurd h (by omega))
                      refine lv_iload_n hx hb dX4_unsynced_124 rfl (lv_at hl 4 rfl) ?_
                      refine lv_aload_n hx hb dX4_unsynced_125 rfl (lv_at hl 2 rfl) ?_
                      refine r_get (C := RX4) (T := TX4) (M := 9) (index := 7) (fd := "book") (fo := "[I") hx hb hts (by decide +kernel) hown hK hP 0 (by decide) mF_0 rfl 1 (by decide) rfl (by decide +kernel) rfl dX4_unsynced_126 ?_
                      refine lv_iload_n hx hb dX4_unsynced_129 rfl (lv_at hl 5 rfl) ?_
                      refine r_iald hx hb hK hP 1 0 (by omega) (mF_a 1 (by omega)) rfl (i := i) (by omega) (by decide) dX4_unsynced_130 ?_
                      refine lv_iload_n hx hb dX4_unsynced_131 rfl (lv_at hl 3 rfl) ?_
                      refine lv_icmp_ne (tgt := 144) hx hb dX4_unsynced_132 (by decide) (fun h132_59 => ?_) (fun h132_59 => ?_)
                      · refine lv_iconst (v := nI 0) hx hb dX4_unsynced_144 (by decide) ?_
                        refine lv_iadd hx hb dX4_unsynced_145 ?_
                        refine lv_istore_n (lv' := [(2, .int ((musC y b i) + (nI 0))), (5, .int (nI 3)), (4, .int (nI 0)), (0, .ref (ad 0)), (1, .int b), (3, .int (nI i))]) hx hb dX4_unsynced_146 rfl hl (by decide) rfl (fun ls hl => ?_)
                        refine r_iincN (k := 5) (a := i) (d := 1) (r := i + 1) (lv' := [(3, .int (nI (i + 1))), (2, .int ((musC y b i) + (nI 0))), (5, .int (nI 3)), (4, .int (nI 0)), (0, .ref (ad 0)), (1, .int b)]) hx hb dX4_unsynced_147 hl rfl (by omega) (by decide) rfl (fun ls hl => ?_)
                        refine lv_goto (tgt := 25) hx hb dX4_unsynced_150 (by decide) ?_
                        exact ih25 _ _ hP hS _ (lv_cast (lv_sub (l' := [(0, .ref (ad 0)), (1, .int b), (2, .int ((musC y b i) + (nI 0))), (3, .int (nI (i + 1)))]) hl [4, 5, 1, 0] rfl) (by rw [show (musC y b (i + 1) : Int32) = (musC y b i) + (nI 0) from by simp [musC, msynB, h66_7, h87_15, h108_23, h66_33, h87_39, h108_45, h66_53, h87_57, h132_59]]))
                      · refine lv_iload hx hb dX4_unsynced_135 (lv_at hl 1 rfl) ?_
                        refine r_ifneN (a := 0) (tgt := 144) hx hb (by omega) dX4_unsynced_137 (by decide) (fun h => absurd h (by omega)) (fun _ => ?_)
                        refine lv_iconst (v := nI 1) hx hb dX4_unsynced_140 (by decide) ?_
                        refine lv_goto (tgt := 145) hx hb dX4_unsynced_141 (by decide) ?_
                        refine lv_iadd hx hb dX4_unsynced_145 ?_
                        refine lv_istore_n (lv' := [(2, .int ((musC y b i) + (nI 1))), (5, .int (nI 3)), (4, .int (nI 0)), (0, .ref (ad 0)), (1, .int b), (3, .int (nI i))]) hx hb dX4_unsynced_146 rfl hl (by decide) rfl (fun ls hl => ?_)
                        refine r_iincN (k := 5) (a := i) (d := 1) (r := i + 1) (lv' := [(3, .int (nI (i + 1))), (2, .int ((musC y b i) + (nI 1))), (5, .int (nI 3)), (4, .int (nI 0)), (0, .ref (ad 0)), (1, .int b)]) hx hb dX4_unsynced_147 hl rfl (by omega) (by decide) rfl (fun ls hl => ?_)
                        refine lv_goto (tgt := 25) hx hb dX4_unsynced_150 (by decide) ?_
                        exact ih25 _ _ hP hS _ (lv_cast (lv_sub (l' := [(0, .ref (ad 0)), (1, .int b), (2, .int ((musC y b i) + (nI 1))), (3, .int (nI (i + 1)))]) hl [4, 5, 1, 0] rfl) (by rw [show (musC y b (i + 1) : Int32) = (musC y b i) + (nI 1) from by simp [musC, msynB, h66_7, h87_15, h108_23, h66_33, h87_39, h108_45, h66_53, h87_57, h132_59]]))
                    · refine lv_aload_n hx hb dX4_unsynced_90 rfl (lv_at hl 2 rfl) ?_
                      refine r_get (C := RX4) (T := TX4) (M := 9) (index := 16) (fd := "set") (fo := "[I") hx hb hts (by decide +kernel) hown hK hP 0 (by decide) mF_0 rfl 3 (by decide) rfl (by decide +kernel) rfl dX4_unsynced_91 ?_
                      refine lv_iload_n hx hb dX4_unsynced_94 rfl (lv_at hl 5 rfl) ?_
                      refine lv_iload hx hb dX4_unsynced_95 (lv_at hl 0 rfl) ?_
                      refine lv_iconst (v := nI 1) hx hb dX4_unsynced_97 (by decide) ?_
                      refine k_Ri (va_runS (As := [.int (nI i), .int (nI 2), .int (nI 1)]) (rest := [.ref (ad 3)]) hF (c_X4_at l i 2 1 (by omega) (by omega) (by omega)) (va_cwS 3 hts gX4_unsynced_X4_at rfl rfl rfl (by decide +kernel) ⟨(Nat.le_of_ble_eq_true rfl), (Nat.le_of_ble_eq_true rfl)⟩) k_preS rfl rfl hl.1 rfl (lv_room (Nat.le_of_ble_eq_true rfl)) dX4_unsynced_98 ⟨Nat.zero_le _, Nat.zero_le _⟩) ?_
                      refine r_topi (show (nI (6 * i + 2 * 2 + 1) : Int32) = nI (6 * i + 5) from congrArg nI (by omega)) ?_
                      refine r_iald hx hb hK hP 3 0 (by omega) mF_3 rfl (i := 6 * i + 5) (by omega) (by decide) dX4_unsynced_101 ?_
                      refine lv_aload_n hx hb dX4_unsynced_102 rfl (lv_at hl 2 rfl) ?_
                      refine lv_iload_n hx hb dX4_unsynced_103 rfl (lv_at hl 5 rfl) ?_
                      refine lv_iconst (v := nI 1) hx hb dX4_unsynced_104 (by decide) ?_
                      refine k_Ri (va_runV (As := [.int (nI i), .int (nI 1)]) (rest := [.int (y 3 (6 * i + 5))]) hF (c_X4_mergedOf l D cI cA ad (nI 0) n y i 1 (by omega) (by omega)) (cwV 2 hts gX4_unsynced_X4_mergedOf rfl rfl rfl (by decide +kernel) ⟨(Nat.le_of_ble_eq_true rfl), (Nat.le_of_ble_eq_true rfl)⟩) (k_pre hP hK hD hT (k := 0) (by decide) mF_0 rfl) rfl rfl hl.1 rfl (lv_room (Nat.le_of_ble_eq_true rfl)) dX4_unsynced_105 ⟨Nat.zero_le _, Nat.zero_le _⟩) ?_
                      refine lv_icmp_ne (tgt := 115) hx hb dX4_unsynced_108 (by decide) (fun h108_61 => ?_) (fun h108_61 => ?_)
                      · refine lv_iconst (v := nI 0) hx hb dX4_unsynced_115 (by decide) ?_
                        refine lv_istore (lv' := [(4, .int (nI 0)), (5, .int (nI 2)), (0, .ref (ad 0)), (1, .int b), (2, .int (musC y b i)), (3, .int (nI i))]) hx hb dX4_unsynced_116 hl (by decide) rfl (fun ls hl => ?_)
                        refine r_iincN (k := 1) (a := 2) (d := 1) (r := 3) (lv' := [(5, .int (nI 3)), (4, .int (nI 0)), (0, .ref (ad 0)), (1, .int b), (2, .int (musC y b i)), (3, .int (nI i))]) hx hb dX4_unsynced_118 hl rfl (by omega) (by decide) rfl (fun ls hl => ?_)
                        refine lv_goto (tgt := 39) hx hb dX4_unsynced_121 (by decide) ?_
                        refine lv_iload hx hb dX4_unsynced_39 (lv_at hl 0 rfl) ?_
                        refine lv_iconst (v := nI 3) hx hb dX4_unsynced_41 (by decide) ?_
                        refine r_cgeN (a := 3) (b := 3) (tgt := 124) hx hb (by omega) (by omega) dX4_unsynced_42 (by decide) (fun _ => ?_) (fun h => absurd h (by omega))
                        refine lv_iload_n hx hb dX4_unsynced_124 rfl (lv_at hl 4 rfl) ?_
                        refine lv_aload_n hx hb dX4_unsynced_125 rfl (lv_at hl 2 rfl) ?_
                        refine r_get (C := RX4) (T := TX4) (M := 9) (index := 7) (fd := "book") (fo := "[I") hx hb hts (by decide +kernel) hown hK hP 0 (by decide) mF_0 rfl 1 (by decide) rfl (by decide +kernel) rfl dX4_unsynced_126 ?_
                        refine lv_iload_n hx hb dX4_unsynced_129 rfl (lv_at hl 5 rfl) ?_
                        refine r_iald hx hb hK hP 1 0 (by omega) (mF_a 1 (by omega)) rfl (i := i) (by omega) (by decide) dX4_unsynced_130 ?_
                        refine lv_iload_n hx hb dX4_unsynced_131 rfl (lv_at hl 3 rfl) ?_
                        refine lv_icmp_ne (tgt := 144) hx hb dX4_unsynced_132 (by decide) (fun h132_63 => ?_) (fun h132_63 => ?_)
                        · refine lv_iconst (v := nI 0) hx hb dX4_unsynced_144 (by decide) ?_
                          refine lv_iadd hx hb dX4_unsynced_145 ?_
                          refine lv_istore_n (lv' := [(2, .int ((musC y b i) + (nI 0))), (5, .int (nI 3)), (4, .int (nI 0)), (0, .ref (ad 0)), (1, .int b), (3, .int (nI i))]) hx hb dX4_unsynced_146 rfl hl (by decide) rfl (fun ls hl => ?_)
                          refine r_iincN (k := 5) (a := i) (d := 1) (r := i + 1) (lv' := [(3, .int (nI (i + 1))), (2, .int ((musC y b i) + (nI 0))), (5, .int (nI 3)), (4, .int (nI 0)), (0, .ref (ad 0)), (1, .int b)]) hx hb dX4_unsynced_147 hl rfl (by omega) (by decide) rfl (fun ls hl => ?_)
                          refine lv_goto (tgt := 25) hx hb dX4_unsynced_150 (by decide) ?_
                          exact ih25 _ _ hP hS _ (lv_cast (lv_sub (l' := [(0, .ref (ad 0)), (1, .int b), (2, .int ((musC y b i) + (nI 0))), (3, .int (nI (i + 1)))]) hl [4, 5, 1, 0] rfl) (by rw [show (musC y b (i + 1) : Int32) = (musC y b i) + (nI 0) from by simp [musC, msynB, h66_7, h87_15, h108_23, h66_33, h87_39, h108_45, h66_53, h87_57, h108_61, h132_63]]))
                        · refine lv_iload hx hb dX4_unsynced_135 (lv_at hl 1 rfl) ?_
                          refine r_ifneN (a := 0) (tgt := 144) hx hb (by omega) dX4_unsynced_137 (by decide) (fun h => absurd h (by omega)) (fun _ => ?_)
                          refine lv_iconst (v := nI 1) hx hb dX4_unsynced_140 (by decide) ?_
                          refine lv_goto (tgt := 145) hx hb dX4_unsynced_141 (by decide) ?_
                          refine lv_iadd hx hb dX4_unsynced_145 ?_
                          refine lv_istore_n (lv' := [(2, .int ((musC y b i) + (nI 1))), (5, .int (nI 3)), (4, .int (nI 0)), (0, .ref (ad 0)), (1, .int b), (3, .int (nI i))]) hx hb dX4_unsynced_146 rfl hl (by decide) rfl (fun ls hl => ?_)
                          refine r_iincN (k := 5) (a := i) (d := 1) (r := i + 1) (lv' := [(3, .int (nI (i + 1))), (2, .int ((musC y b i) + (nI 1))), (5, .int (nI 3)), (4, .int (nI 0)), (0, .ref (ad 0)), (1, .int b)]) hx hb dX4_unsynced_147 hl rfl (by omega) (by decide) rfl (fun ls hl => ?_)
                          refine lv_goto (tgt := 25) hx hb dX4_unsynced_150 (by decide) ?_
                          exact ih25 _ _ hP hS _ (lv_cast (lv_sub (l' := [(0, .ref (ad 0)), (1, .int b), (2, .int ((musC y b i) + (nI 1))), (3, .int (nI (i + 1)))]) hl [4, 5, 1, 0] rfl) (by rw [show (musC y b (i + 1) : Int32) = (musC y b i) + (nI 1) from by simp [musC, msynB, h66_7, h87_15, h108_23, h66_33, h87_39, h108_45, h66_53, h87_57, h108_61, h132_63]]))
                      · refine lv_iconst (v := nI 1) hx hb dX4_unsynced_111 (by decide) ?_
                        refine lv_goto (tgt := 116) hx hb dX4_unsynced_112 (by decide) ?_
                        refine lv_istore (lv' := [(4, .int (nI 1)), (5, .int (nI 2)), (0, .ref (ad 0)), (1, .int b), (2, .int (musC y b i)), (3, .int (nI i))]) hx hb dX4_unsynced_116 hl (by decide) rfl (fun ls hl => ?_)
                        refine r_iincN (k := 1) (a := 2) (d := 1) (r := 3) (lv' := [(5, .int (nI 3)), (4, .int (nI 1)), (0, .ref (ad 0)), (1, .int b), (2, .int (musC y b i)), (3, .int (nI i))]) hx hb dX4_unsynced_118 hl rfl (by omega) (by decide) rfl (fun ls hl => ?_)
                        refine lv_goto (tgt := 39) hx hb dX4_unsynced_121 (by decide) ?_
                        refine lv_iload hx hb dX4_unsynced_39 (lv_at hl 0 rfl) ?_
                        refine lv_iconst (v := nI 3) hx hb dX4_unsynced_41 (by decide) ?_
                        refine r_cgeN (a := 3) (b := 3) (tgt := 124) hx hb (by omega) (by omega) dX4_unsynced_42 (by decide) (fun _ => ?_) (fun h => absurd h (by omega))
                        refine lv_iload_n hx hb dX4_unsynced_124 rfl (lv_at hl 4 rfl) ?_
                        refine lv_aload_n hx hb dX4_unsynced_125 rfl (lv_at hl 2 rfl) ?_
                        refine r_get (C := RX4) (T := TX4) (M := 9) (index := 7) (fd := "book") (fo := "[I") hx hb hts (by decide +kernel) hown hK hP 0 (by decide) mF_0 rfl 1 (by decide) rfl (by decide +kernel) rfl dX4_unsynced_126 ?_
                        refine lv_iload_n hx hb dX4_unsynced_129 rfl (lv_at hl 5 rfl) ?_
                        refine r_iald hx hb hK hP 1 0 (by omega) (mF_a 1 (by omega)) rfl (i := i) (by omega) (by decide) dX4_unsynced_130 ?_
                        refine lv_iload_n hx hb dX4_unsynced_131 rfl (lv_at hl 3 rfl) ?_
                        refine lv_icmp_ne (tgt := 144) hx hb dX4_unsynced_132 (by decide) (fun h132_66 => ?_) (fun h132_66 => ?_)
                        · refine lv_iconst (v := nI 0) hx hb dX4_unsynced_144 (by decide) ?_
                          refine lv_iadd hx hb dX4_unsynced_145 ?_
                          refine lv_istore_n (lv' := [(2, .int ((musC y b i) + (nI 0))), (5, .int (nI 3)), (4, .int (nI 1)), (0, .ref (ad 0)), (1, .int b), (3, .int (nI i))]) hx hb dX4_unsynced_146 rfl hl (by decide) rfl (fun ls hl => ?_)
                          refine r_iincN (k := 5) (a := i) (d := 1) (r := i + 1) (lv' := [(3, .int (nI (i + 1))), (2, .int ((musC y b i) + (nI 0))), (5, .int (nI 3)), (4, .int (nI 1)), (0, .ref (ad 0)), (1, .int b)]) hx hb dX4_unsynced_147 hl rfl (by omega) (by decide) rfl (fun ls hl => ?_)
                          refine lv_goto (tgt := 25) hx hb dX4_unsynced_150 (by decide) ?_
                          exact ih25 _ _ hP hS _ (lv_cast (lv_sub (l' := [(0, .ref (ad 0)), (1, .int b), (2, .int ((musC y b i) + (nI 0))), (3, .int (nI (i + 1)))]) hl [4, 5, 1, 0] rfl) (by rw [show (musC y b (i + 1) : Int32) = (musC y b i) + (nI 0) from by simp [musC, msynB, h66_7, h87_15, h108_23, h66_33, h87_39, h108_45, h66_53, h87_57, h108_61, h132_66]]))
                        · refine lv_iload hx hb dX4_unsynced_135 (lv_at hl 1 rfl) ?_
                          refine r_ifneN (a := 1) (tgt := 144) hx hb (by omega) dX4_unsynced_137 (by decide) (fun _ => ?_) (fun h => absurd h (by omega))
                          refine lv_iconst (v := nI 0) hx hb dX4_unsynced_144 (by decide) ?_
                          refine lv_iadd hx hb dX4_unsynced_145 ?_
                          refine lv_istore_n (lv' := [(2, .int ((musC y b i) + (nI 0))), (5, .int (nI 3)), (4, .int (nI 1)), (0, .ref (ad 0)), (1, .int b), (3, .int (nI i))]) hx hb dX4_unsynced_146 rfl hl (by decide) rfl (fun ls hl => ?_)
                          refine r_iincN (k := 5) (a := i) (d := 1) (r := i + 1) (lv' := [(3, .int (nI (i + 1))), (2, .int ((musC y b i) + (nI 0))), (5, .int (nI 3)), (4, .int (nI 1)), (0, .ref (ad 0)), (1, .int b)]) hx hb dX4_unsynced_147 hl rfl (by omega) (by decide) rfl (fun ls hl => ?_)
                          refine lv_goto (tgt := 25) hx hb dX4_unsynced_150 (by decide) ?_
                          exact ih25 _ _ hP hS _ (lv_cast (lv_sub (l' := [(0, .ref (ad 0)), (1, .int b), (2, .int ((musC y b i) + (nI 0))), (3, .int (nI (i + 1)))]) hl [4, 5, 1, 0] rfl) (by rw [show (musC y b (i + 1) : Int32) = (musC y b i) + (nI 0) from by simp [musC, msynB, h66_7, h87_15, h108_23, h66_33, h87_39, h108_45, h66_53, h87_57, h108_61, h132_66]]))
  exact hL25 0 (Nat.zero_le _) _ _ hP hS _ (lv_cast (lv_sub (l' := [(0, .ref (ad 0)), (1, .int b), (2, .int (nI 0)), (3, .int (nI 0))]) hl [2, 3, 1, 0] rfl) (by rw [show (musC y b 0 : Int32) = nI 0 from rfl]))
set_option maxHeartbeats 4000000 in
set_option maxRecDepth 100000 in
theorem m_unsynced_1 (l : Launch) (D : va_G) (cI : ClassId) (cA : ClassId) (ad : Nat → Nat) (th : Int32) (n : Nat) (y : Nat → Nat → Int32) (b : Int32) (hbk : bookB b = false) : Met l yX4_unsynced wsX4_unsynced ({ frames := 2, cells := 0, slots := 0, locals := 42 }) (va_Pc [.ref (ad 0), .int b] (mX D cI cA ad th n y)) (qW D ad (mF cI ad (nI 1) n y) 8 (some (.int (nI 0)))) 0 0 (wA ad 8) := by
  refine c_ofW (cc := cX4_unsynced) (maxL := 6) (ret := .int) (by decide) rfl rfl (Nat.le_of_ble_eq_true rfl) ?_
  intro p e s m av below meth cd Q hx hb hF hP hK hD hT hret ls hl
  have hown : s.vm.findClass RX4 = some m.cls := hF.2.2.2.1
  have hF : CallFix p m cd cX4_unsynced 6 s av wsX4_unsynced RX4 := hF
  have hts := hF.2.2.2.2
  have hl : lv_has ls 6 [(0, .ref (ad 0)), (1, .int b)] := hl
  obtain ⟨H, eH⟩ : ∃ H9 : Heap, H9 = s.heap := ⟨_, rfl⟩
  obtain ⟨locs, eL⟩ : ∃ L9 : List Loc, L9 = [] := ⟨_, rfl⟩
  have hS : sS (wA ad 8) s.heap H locs := by rw [eH, eL]; exact sS.rf
  rw [← eH] at hP
  suffices hgo : W p l e ({ frames := 2, cells := 0, slots := 0, locals := 42 }) s m av below meth cd H locs 0 0 Q (F0 m 0 ls []) by rw [eH, eL] at hgo; exact hgo
  clear eH eL
  refine lv_aload_n hx hb dX4_unsynced_0 rfl (lv_at hl 0 rfl) ?_
  refine lv_iload_n hx hb dX4_unsynced_1 rfl (lv_at hl 1 rfl) ?_
  refine k_Ri (va_runS (As := [.int b]) (rest := [.ref (ad 0)]) hF (c_X4_isBook l b) (va_cwS 1 hts gX4_unsynced_X4_isBook rfl rfl rfl (by decide +kernel) ⟨(Nat.le_of_ble_eq_true rfl), (Nat.le_of_ble_eq_true rfl)⟩) k_preS rfl rfl hl.1 rfl (lv_room (Nat.le_of_ble_eq_true rfl)) dX4_unsynced_2 ⟨Nat.zero_le _, Nat.zero_le _⟩) ?_
  refine r_topi (show bI (bookB b) = bI false from congrArg bI (hbk)) ?_
  refine r_ifeqB (b := false) (tgt := 12) hx hb dX4_unsynced_5 (by decide) (fun _ => ?_) (fun h => absurd h (by decide))
  refine lv_iconst (v := nI 1) hx hb dX4_unsynced_12 (by decide) ?_
  refine k_Wi (va_runV (As := [.int (nI 1)]) (rest := []) hF (c_X4_isFine_1 l D cI cA ad th n y) (cwV 1 hts gX4_unsynced_X4_isFine rfl rfl rfl (by decide +kernel) ⟨(Nat.le_of_ble_eq_true rfl), (Nat.le_of_ble_eq_true rfl)⟩) (k_pre hP hK hD hT (k := 0) (by decide) mF_0 rfl) rfl rfl hl.1 rfl (lv_room (Nat.le_of_ble_eq_true rfl)) dX4_unsynced_13 ⟨Nat.zero_le _, Nat.zero_le _⟩) hD hS (fun H locs hP hS => ?_)
  refine r_ifneB (b := false) (tgt := 21) hx hb dX4_unsynced_16 (by decide) (fun h => absurd h (by decide)) (fun _ => ?_)
  refine lv_iconst (v := nI 0) hx hb dX4_unsynced_19 (by decide) ?_
  exact hret _ _ _ _ _ _ hP hS dX4_unsynced_20 (rfl) (rfl)
set_option maxHeartbeats 4000000 in
set_option maxRecDepth 100000 in
theorem c_X4_groupOf (l : Launch) (D : va_G) (cI : ClassId) (cA : ClassId) (ad : Nat → Nat) (th : Int32) (n : Nat) (y : Nat → Nat → Int32) (c : Nat) (r : Int32) (hc : c < n) (hn : n ≤ 24) (hg : isGrp (y 4) n c r) : Met l yX4_groupOf wsX4_groupOf ({ frames := 1, cells := 0, slots := 0, locals := 21 }) (va_Pc [.ref (ad 0), .int (nI c)] (mX D cI cA ad th n y)) (qR (some (.int r))) 0 0 nF := by
  refine c_ofR (cc := cX4_groupOf) (maxL := 5) (ret := .int) (by decide) rfl rfl (Nat.le_of_ble_eq_true rfl) ?_
  intro p e s m av below meth cd Q hx hb hF hP hK hD hT hret ls hl
  have hown : s.vm.findClass RX4 = some m.cls := hF.2.2.2.1
  have hF : CallFix p m cd cX4_groupOf 5 s av wsX4_groupOf RX4 := hF
  have hts := hF.2.2.2.2
  have hl : lv_has ls 5 [(0, .ref (ad 0)), (1, .int (nI c))] := hl
  refine lv_iconst (v := nI 1) hx hb dX4_groupOf_0 (by decide) ?_
  refine lv_iload_n hx hb dX4_groupOf_1 rfl (lv_at hl 1 rfl) ?_
  refine r_bit hx hb dX4_groupOf_2 ?_
  refine lv_istore_n (lv' := [(2, .int (bit c)), (0, .ref (ad 0)), (1, .int (nI c))]) hx hb dX4_groupOf_3 rfl hl (by decide) rfl (fun ls hl => ?_)
  refine lv_iconst (v := nI 0) hx hb dX4_groupOf_4 (by decide) ?_
  refine lv_istore_n (lv' := [(3, .int (nI 0)), (2, .int (bit c)), (0, .ref (ad 0)), (1, .int (nI c))]) hx hb dX4_groupOf_5 rfl hl (by decide) rfl (fun ls hl => ?_)
  have hL6 : ∀ f : Nat, ∀ a9 : Int32, ∀ b9 : Int32, (gq (y 4) n c r a9 b9 f) → ∀ ls : Array Slot, lv_has ls 5 [(0, .ref (ad 0)), (2, .int a9), (3, .int b9)] → W p l e ({ frames := 1, cells := 0, slots := 0, locals := 21 }) s m av below meth cd s.heap [] 0 0 Q (F0 m 6 ls []) := by
    intro f
    induction f with
    | zero =>
      intro a9 b9 hq ls hl
      refine lv_iload_n hx hb dX4_groupOf_6 rfl (lv_at hl 1 rfl) ?_
      refine lv_iload_n hx hb dX4_groupOf_7 rfl (lv_at hl 2 rfl) ?_
      refine lv_icmp_eq (tgt := 57) hx hb dX4_groupOf_8 (by decide) (fun _ => ?_) (fun h => absurd (gq_0 hq) h)
      refine lv_iload_n hx hb dX4_groupOf_57 rfl (lv_at hl 1 rfl) ?_
      exact hret _ _ _ dX4_groupOf_58 (gq_end (by omega) hq (by first | assumption | exact gq_0 hq))
    | succ f ih6 =>
      intro a9 b9 hq ls hl
      refine lv_iload_n hx hb dX4_groupOf_6 rfl (lv_at hl 1 rfl) ?_
      refine lv_iload_n hx hb dX4_groupOf_7 rfl (lv_at hl 2 rfl) ?_
      refine lv_icmp_eq (tgt := 57) hx hb dX4_groupOf_8 (by decide) (fun h8_2 => ?_) (fun h8_2 => ?_)
      · refine lv_iload_n hx hb dX4_groupOf_57 rfl (lv_at hl 1 rfl) ?_
        exact hret _ _ _ dX4_groupOf_58 (gq_end (by omega) hq (by first | assumption | exact gq_0 hq))
      · refine lv_iload_n hx hb dX4_groupOf_11 rfl (lv_at hl 1 rfl) ?_
        refine lv_istore_n (lv' := [(3, .int a9), (0, .ref (ad 0)), (2, .int a9)]) hx hb dX4_groupOf_12 rfl hl (by decide) rfl (fun ls hl => ?_)
        refine lv_iconst (v := nI 0) hx hb dX4_groupOf_13 (by decide) ?_
        refine lv_istore (lv' := [(4, .int (nI 0)), (3, .int a9), (0, .ref (ad 0)), (2, .int a9)]) hx hb dX4_groupOf_14 hl (by decide) rfl (fun ls hl => ?_)
        have hL16 : ∀ i : Nat, i ≤ n → ∀ ls : Array Slot, lv_has ls 5 [(0, .ref (ad 0)), (2, .int (pasF (y 4) a9 i)), (3, .int a9), (4, .int (nI i))] → W p l e ({ frames := 1, cells := 0, slots := 0, locals := 21 }) s m av below meth cd s.heap [] 0 0 Q (F0 m 16 ls []) := by
          refine down (n) ?_ ?_
          · intro ls hl
            refine lv_iload hx hb dX4_groupOf_16 (lv_at hl 3 rfl) ?_
            refine lv_aload_n hx hb dX4_groupOf_18 rfl (lv_at hl 0 rfl) ?_
            refine r_get (C := RX4) (T := TX4) (M := 9) (index := 35) (fd := "cards") (fo := "I") hx hb hts (by decide +kernel) hown hK hP 0 (by decide) mF_0 rfl 7 (by decide) rfl (by decide +kernel) rfl dX4_groupOf_19 ?_
            refine r_cgeN (a := n) (b := n) (tgt := 54) hx hb (by omega) (by omega) dX4_groupOf_22 (by decide) (fun _ => ?_) (fun h => absurd h (by omega))
            refine lv_goto (tgt := 6) hx hb dX4_groupOf_54 (by decide) ?_
            exact ih6 (pasF (y 4) a9 n) a9 (gq_go (by omega) (by omega) hq (by assumption)) _ (lv_cast (lv_sub (l' := [(0, .ref (ad 0)), (2, .int (pasF (y 4) a9 n)), (3, .int a9)]) hl [0, 1, 2] rfl) (by rw [show ((pasF (y 4) a9 n) : Int32) = pasF (y 4) a9 n from rfl]))
          · intro i hi16 ih16 ls hl
            refine lv_iload hx hb dX4_groupOf_16 (lv_at hl 3 rfl) ?_
            refine lv_aload_n hx hb dX4_groupOf_18 rfl (lv_at hl 0 rfl) ?_
            refine r_get (C := RX4) (T := TX4) (M := 9) (index := 35) (fd := "cards") (fo := "I") hx hb hts (by decide +kernel) hown hK hP 0 (by decide) mF_0 rfl 7 (by decide) rfl (by decide +kernel) rfl dX4_groupOf_19 ?_
            refine r_cgeN (a := i) (b := n) (tgt := 54) hx hb (by omega) (by omega) dX4_groupOf_22 (by decide) (fun h => absurd h (by omega)) (fun _ => ?_)
            refine lv_iload_n hx hb dX4_groupOf_25 rfl (lv_at hl 1 rfl) ?_
            refine lv_iload_n hx hb dX4_groupOf_26 rfl (lv_at hl 1 rfl) ?_
            refine lv_iload hx hb dX4_groupOf_27 (lv_at hl 3 rfl) ?_
            refine k_Ri (va_runS (As := [.int (pasF (y 4) a9 i), .int (nI i)]) (rest := [.int (pasF (y 4) a9 i)]) hF (c_X4_has l i (pasF (y 4) a9 i) (by omega)) (va_cwS 2 hts gX4_groupOf_X4_has rfl rfl rfl (by decide +kernel) ⟨(Nat.le_of_ble_eq_true rfl), (Nat.le_of_ble_eq_true rfl)⟩) k_preS rfl rfl hl.1 rfl (lv_room (Nat.le_of_ble_eq_true rfl)) dX4_groupOf_29 ⟨Nat.zero_le _, Nat.zero_le _⟩) ?_
            refine r_ifeqB (b := hasB (pasF (y 4) a9 i) i) (tgt := 45) hx hb dX4_groupOf_32 (by decide) (fun h32_5 => ?_) (fun h32_5 => ?_)
            · refine lv_iconst (v := nI 0) hx hb dX4_groupOf_45 (by decide) ?_
              refine lv_ior hx hb dX4_groupOf_46 ?_
              refine lv_istore_n (lv' := [(2, .int ((pasF (y 4) a9 i) ||| (nI 0))), (0, .ref (ad 0)), (3, .int a9), (4, .int (nI i))]) hx hb dX4_groupOf_47 rfl hl (by decide) rfl (fun ls hl => ?_)
              refine r_iincN (k := 3) (a := i) (d := 1) (r := i + 1) (lv' := [(4, .int (nI (i + 1))), (2, .int ((pasF (y 4) a9 i) ||| (nI 0))), (0, .ref (ad 0)), (3, .int a9)]) hx hb dX4_groupOf_48 hl rfl (by omega) (by decide) rfl (fun ls hl => ?_)
              refine lv_goto (tgt := 16) hx hb dX4_groupOf_51 (by decide) ?_
              exact ih16 _ (lv_cast (lv_sub (l' := [(0, .ref (ad 0)), (2, .int ((pasF (y 4) a9 i) ||| (nI 0))), (3, .int a9), (4, .int (nI (i + 1)))]) hl [2, 1, 3, 0] rfl) (by rw [show (pasF (y 4) a9 (i + 1) : Int32) = (pasF (y 4) a9 i) ||| (nI 0) from by simp [pasF, hq, h8_2, h32_5]]))
            · refine lv_aload_n hx hb dX4_groupOf_35 rfl (lv_at hl 0 rfl) ?_
              refine r_get (C := RX4) (T := TX4) (M := 9) (index := 19) (fd := "links") (fo := "[I") hx hb hts (by decide +kernel) hown hK hP 0 (by decide) mF_0 rfl 4 (by decide) rfl (by decide +kernel) rfl dX4_groupOf_36 ?_
              refine lv_iload hx hb dX4_groupOf_39 (lv_at hl 3 rfl) ?_
              refine r_iald hx hb hK hP 4 0 (by omega) (mF_a 4 (by omega)) rfl (i := i) (by omega) (by decide) dX4_groupOf_41 ?_
              refine lv_goto (tgt := 46) hx hb dX4_groupOf_42 (by decide) ?_
              refine lv_ior hx hb dX4_groupOf_46 ?_
              refine lv_istore_n (lv' := [(2, .int ((pasF (y 4) a9 i) ||| (y 4 i))), (0, .ref (ad 0)), (3, .int a9), (4, .int (nI i))]) hx hb dX4_groupOf_47 rfl hl (by decide) rfl (fun ls hl => ?_)
              refine r_iincN (k := 3) (a := i) (d := 1) (r := i + 1) (lv' := [(4, .int (nI (i + 1))), (2, .int ((pasF (y 4) a9 i) ||| (y 4 i))), (0, .ref (ad 0)), (3, .int a9)]) hx hb dX4_groupOf_48 hl rfl (by omega) (by decide) rfl (fun ls hl => ?_)
              refine lv_goto (tgt := 16) hx hb dX4_groupOf_51 (by decide) ?_
              exact ih16 _ (lv_cast (lv_sub (l' := [(0, .ref (ad 0)), (2, .int ((pasF (y 4) a9 i) ||| (y 4 i))), (3, .int a9), (4, .int (nI (i + 1)))]) hl [2, 1, 3, 0] rfl) (by rw [show (pasF (y 4) a9 (i + 1) : Int32) = (pasF (y 4) a9 i) ||| (y 4 i) from by simp [pasF, hq, h8_2, h32_5]]))
        exact hL16 0 (Nat.zero_le _) _ (lv_cast (lv_sub (l' := [(0, .ref (ad 0)), (2, .int a9), (3, .int a9), (4, .int (nI 0))]) hl [2, 3, 1, 0] rfl) (by rw [show (pasF (y 4) a9 0 : Int32) = a9 from rfl]))
  exact hL6 33 (bit c) (nI 0) (gq_start (by omega) hg) _ (lv_cast (lv_sub (l' := [(0, .ref (ad 0)), (2, .int (bit c)), (3, .int (nI 0))]) hl [2, 1, 0] rfl) (by rw [show ((bit c) : Int32) = bit c from rfl, show ((nI 0) : Int32) = nI 0 from rfl]))
set_option maxHeartbeats 4000000 in
set_option maxRecDepth 100000 in
theorem c_X4_preferredOf (l : Launch) (D : va_G) (cI : ClassId) (cA : ClassId) (ad : Nat → Nat) (th : Int32) (n : Nat) (y : Nat → Nat → Int32) (c : Nat) (g : Nat → Int32) (hc : c < n) (hn : n ≤ 24) (hg : ∀ i, i < n → isGrp (y 4) n i (g i)) : Met l yX4_preferredOf wsX4_preferredOf ({ frames := 2, cells := 0, slots := 0, locals := 45 }) (va_Pc [.ref (ad 0), .int (nI c)] (mX D cI cA ad th n y)) (qR (some (.int (nI (prefF (y 1) (g c) c n))))) 0 0 nF := by
  refine c_ofR (cc := cX4_preferredOf) (maxL := 6) (ret := .int) (by decide) rfl rfl (Nat.le_of_ble_eq_true rfl) ?_
  intro p e s m av below meth cd Q hx hb hF hP hK hD hT hret ls hl
  have hown : s.vm.findClass RX4 = some m.cls := hF.2.2.2.1
  have hF : CallFix p m cd cX4_preferredOf 6 s av wsX4_preferredOf RX4 := hF
  have hts := hF.2.2.2.2
  have hl : lv_has ls 6 [(0, .ref (ad 0)), (1, .int (nI c))] := hl
  refine lv_aload_n hx hb dX4_preferredOf_0 rfl (lv_at hl 0 rfl) ?_
  refine lv_iload_n hx hb dX4_preferredOf_1 rfl (lv_at hl 1 rfl) ?_
  refine k_Ri (va_runV (As := [.int (nI c)]) (rest := []) hF (c_X4_groupOf l D cI cA ad th n y c (g c) hc hn (hg c hc)) (cwV 1 hts gX4_preferredOf_X4_groupOf rfl rfl rfl (by decide +kernel) ⟨(Nat.le_of_ble_eq_true rfl), (Nat.le_of_ble_eq_true rfl)⟩) (k_pre hP hK hD hT (k := 0) (by decide) mF_0 rfl) rfl rfl hl.1 rfl (lv_room (Nat.le_of_ble_eq_true rfl)) dX4_preferredOf_2 ⟨Nat.zero_le _, Nat.zero_le _⟩) ?_
  refine lv_istore_n (lv' := [(2, .int ((g c))), (0, .ref (ad 0)), (1, .int (nI c))]) hx hb dX4_preferredOf_5 rfl hl (by decide) rfl (fun ls hl => ?_)
  refine lv_iload_n hx hb dX4_preferredOf_6 rfl (lv_at hl 2 rfl) ?_
  refine lv_istore_n (lv' := [(3, .int (nI c)), (2, .int ((g c))), (0, .ref (ad 0)), (1, .int (nI c))]) hx hb dX4_preferredOf_7 rfl hl (by decide) rfl (fun ls hl => ?_)
  refine lv_iconst (v := nI 0) hx hb dX4_preferredOf_8 (by decide) ?_
  refine lv_istore (lv' := [(4, .int (nI 0)), (3, .int (nI c)), (2, .int ((g c))), (0, .ref (ad 0)), (1, .int (nI c))]) hx hb dX4_preferredOf_9 hl (by decide) rfl (fun ls hl => ?_)
  have hL11 : ∀ i : Nat, i ≤ n → ∀ ls : Array Slot, lv_has ls 6 [(0, .ref (ad 0)), (2, .int (g c)), (3, .int (nI (prefF (y 1) (g c) c i))), (4, .int (nI i))] → W p l e ({ frames := 2, cells := 0, slots := 0, locals := 45 }) s m av below meth cd s.heap [] 0 0 Q (F0 m 11 ls []) := by
    refine down (n) ?_ ?_
    · intro ls hl
      refine lv_iload hx hb dX4_preferredOf_11 (lv_at hl 3 rfl) ?_
      refine lv_aload_n hx hb dX4_preferredOf_13 rfl (lv_at hl 0 rfl) ?_
      refine r_get (C := RX4) (T := TX4) (M := 9) (index := 35) (fd := "cards") (fo := "I") hx hb hts (by decide +kernel) hown hK hP 0 (by decide) mF_0 rfl 7 (by decide) rfl (by decide +kernel) rfl dX4_preferredOf_14 ?_
      refine r_cgeN (a := n) (b := n) (tgt := 92) hx hb (by omega) (by omega) dX4_preferredOf_17 (by decide) (fun _ => ?_) (fun h => absurd h (by omega))
      refine lv_iload_n hx hb dX4_preferredOf_92 rfl (lv_at hl 2 rfl) ?_
      exact hret _ _ _ dX4_preferredOf_93 (rfl)
    · intro i hi11 ih11 ls hl
      refine lv_iload hx hb dX4_preferredOf_11 (lv_at hl 3 rfl) ?_
      refine lv_aload_n hx hb dX4_preferredOf_13 rfl (lv_at hl 0 rfl) ?_
      refine r_get (C := RX4) (T := TX4) (M := 9) (index := 35) (fd := "cards") (fo := "I") hx hb hts (by decide +kernel) hown hK hP 0 (by decide) mF_0 rfl 7 (by decide) rfl (by decide +kernel) rfl dX4_preferredOf_14 ?_
      refine r_cgeN (a := i) (b := n) (tgt := 92) hx hb (by omega) (by omega) dX4_preferredOf_17 (by decide) (fun h => absurd h (by omega)) (fun _ => ?_)
      have hpl := prefF_lt (b := y 1) (g := g c) hc i (by omega)
      refine lv_aload_n hx hb dX4_preferredOf_20 rfl (lv_at hl 0 rfl) ?_
      refine r_get (C := RX4) (T := TX4) (M := 9) (index := 7) (fd := "book") (fo := "[I") hx hb hts (by decide +kernel) hown hK hP 0 (by decide) mF_0 rfl 1 (by decide) rfl (by decide +kernel) rfl dX4_preferredOf_21 ?_
      refine lv_iload hx hb dX4_preferredOf_24 (lv_at hl 3 rfl) ?_
      refine r_iald hx hb hK hP 1 0 (by omega) (mF_a 1 (by omega)) rfl (i := i) (by omega) (by decide) dX4_preferredOf_26 ?_
      refine lv_aload_n hx hb dX4_preferredOf_27 rfl (lv_at hl 0 rfl) ?_
      refine r_get (C := RX4) (T := TX4) (M := 9) (index := 7) (fd := "book") (fo := "[I") hx hb hts (by decide +kernel) hown hK hP 0 (by decide) mF_0 rfl 1 (by decide) rfl (by decide +kernel) rfl dX4_preferredOf_28 ?_
      refine lv_iload_n hx hb dX4_preferredOf_31 rfl (lv_at hl 2 rfl) ?_
      refine r_iald hx hb hK hP 1 0 (by omega) (mF_a 1 (by omega)) rfl (i := prefF (y 1) (g c) c i) (by omega) (by decide) dX4_preferredOf_32 ?_
      refine lv_icmp_lt (tgt := 58) hx hb dX4_preferredOf_33 (by decide) (fun h33_3 => ?_) (fun h33_3 => ?_)
      · refine lv_iconst (v := nI 1) hx hb dX4_preferredOf_58 (by decide) ?_
        refine lv_goto (tgt := 63) hx hb dX4_preferredOf_59 (by decide) ?_
        refine lv_istore (lv' := [(5, .int (nI 1)), (0, .ref (ad 0)), (2, .int (g c)), (3, .int (nI (prefF (y 1) (g c) c i))), (4, .int (nI i))]) hx hb dX4_preferredOf_63 hl (by decide) rfl (fun ls hl => ?_)
        refine lv_iload_n hx hb dX4_preferredOf_65 rfl (lv_at hl 2 rfl) ?_
        refine lv_iload hx hb dX4_preferredOf_66 (lv_at hl 4 rfl) ?_
        refine k_Ri (va_runS (As := [.int (g c), .int (nI i)]) (rest := []) hF (c_X4_has l i (g c) (by omega)) (va_cwS 2 hts gX4_preferredOf_X4_has rfl rfl rfl (by decide +kernel) ⟨(Nat.le_of_ble_eq_true rfl), (Nat.le_of_ble_eq_true rfl)⟩) k_preS rfl rfl hl.1 rfl (lv_room (Nat.le_of_ble_eq_true rfl)) dX4_preferredOf_68 ⟨Nat.zero_le _, Nat.zero_le _⟩) ?_
        refine r_ifeqB (b := hasB (g c) i) (tgt := 84) hx hb dX4_preferredOf_71 (by decide) (fun h71_4 => ?_) (fun h71_4 => ?_)
        · refine lv_iload_n hx hb dX4_preferredOf_84 rfl (lv_at hl 3 rfl) ?_
          refine lv_istore_n (lv' := [(3, .int (nI (prefF (y 1) (g c) c i))), (5, .int (nI 1)), (0, .ref (ad 0)), (2, .int (g c)), (4, .int (nI i))]) hx hb dX4_preferredOf_85 rfl hl (by decide) rfl (fun ls hl => ?_)
          refine r_iincN (k := 4) (a := i) (d := 1) (r := i + 1) (lv' := [(4, .int (nI (i + 1))), (3, .int (nI (prefF (y 1) (g c) c i))), (5, .int (nI 1)), (0, .ref (ad 0)), (2, .int (g c))]) hx hb dX4_preferredOf_86 hl rfl (by omega) (by decide) rfl (fun ls hl => ?_)
          refine lv_goto (tgt := 11) hx hb dX4_preferredOf_89 (by decide) ?_
          exact ih11 _ (lv_cast (lv_sub (l' := [(0, .ref (ad 0)), (2, .int (g c)), (3, .int (nI (prefF (y 1) (g c) c i))), (4, .int (nI (i + 1)))]) hl [3, 4, 1, 0] rfl) (by rw [show (nI (prefF (y 1) (g c) c (i + 1)) : Int32) = nI (prefF (y 1) (g c) c i) from congrArg nI (by first | exact prefF_s2 (by assumption) | exact prefF_s1 (by assumption) (ahT (by first | exact Or.inl (by assumption) | exact Or.inr ⟨by assumption, by assumption⟩)) | exact prefF_s3 (ahF (by assumption) (by first | exact Or.inl (by assumption) | exact Or.inr (by omega))))]))
        · refine lv_iload hx hb dX4_preferredOf_74 (lv_at hl 0 rfl) ?_
          refine r_ifeqN (a := 1) (tgt := 84) hx hb (by omega) dX4_preferredOf_76 (by decide) (fun h => absurd h (by omega)) (fun _ => ?_)
          refine lv_iload hx hb dX4_preferredOf_79 (lv_at hl 4 rfl) ?_
          refine lv_goto (tgt := 85) hx hb dX4_preferredOf_81 (by decide) ?_
          refine lv_istore_n (lv' := [(3, .int (nI i)), (5, .int (nI 1)), (0, .ref (ad 0)), (2, .int (g c)), (4, .int (nI i))]) hx hb dX4_preferredOf_85 rfl hl (by decide) rfl (fun ls hl => ?_)
          refine r_iincN (k := 4) (a := i) (d := 1) (r := i + 1) (lv' := [(4, .int (nI (i + 1))), (3, .int (nI i)), (5, .int (nI 1)), (0, .ref (ad 0)), (2, .int (g c))]) hx hb dX4_preferredOf_86 hl rfl (by omega) (by decide) rfl (fun ls hl => ?_)
          refine lv_goto (tgt := 11) hx hb dX4_preferredOf_89 (by decide) ?_
          exact ih11 _ (lv_cast (lv_sub (l' := [(0, .ref (ad 0)), (2, .int (g c)), (3, .int (nI i)), (4, .int (nI (i + 1)))]) hl [3, 4, 1, 0] rfl) (by rw [show (nI (prefF (y 1) (g c) c (i + 1)) : Int32) = nI i from congrArg nI (by first | exact prefF_s2 (by assumption) | exact prefF_s1 (by assumption) (ahT (by first | exact Or.inl (by assumption) | exact Or.inr ⟨by assumption, by assumption⟩)) | exact prefF_s3 (ahF (by assumption) (by first | exact Or.inl (by assumption) | exact Or.inr (by omega))))]))
      · refine lv_aload_n hx hb dX4_preferredOf_36 rfl (lv_at hl 0 rfl) ?_
        refine r_get (C := RX4) (T := TX4) (M := 9) (index := 7) (fd := "book") (fo := "[I") hx hb hts (by decide +kernel) hown hK hP 0 (by decide) mF_0 rfl 1 (by decide) rfl (by decide +kernel) rfl dX4_preferredOf_37 ?_
        refine lv_iload hx hb dX4_preferredOf_40 (lv_at hl 3 rfl) ?_
        refine r_iald hx hb hK hP 1 0 (by omega) (mF_a 1 (by omega)) rfl (i := i) (by omega) (by decide) dX4_preferredOf_42 ?_
        refine lv_aload_n hx hb dX4_preferredOf_43 rfl (lv_at hl 0 rfl) ?_
        refine r_get (C := RX4) (T := TX4) (M := 9) (index := 7) (fd := "book") (fo := "[I") hx hb hts (by decide +kernel) hown hK hP 0 (by decide) mF_0 rfl 1 (by decide) rfl (by decide +kernel) rfl dX4_preferredOf_44 ?_
        refine lv_iload_n hx hb dX4_preferredOf_47 rfl (lv_at hl 2 rfl) ?_
        refine r_iald hx hb hK hP 1 0 (by omega) (mF_a 1 (by omega)) rfl (i := prefF (y 1) (g c) c i) (by omega) (by decide) dX4_preferredOf_48 ?_
        refine lv_icmp_ne (tgt := 62) hx hb dX4_preferredOf_49 (by decide) (fun h49_6 => ?_) (fun h49_6 => ?_)
        · refine lv_iconst (v := nI 0) hx hb dX4_preferredOf_62 (by decide) ?_
          refine lv_istore (lv' := [(5, .int (nI 0)), (0, .ref (ad 0)), (2, .int (g c)), (3, .int (nI (prefF (y 1) (g c) c i))), (4, .int (nI i))]) hx hb dX4_preferredOf_63 hl (by decide) rfl (fun ls hl => ?_)
          refine lv_iload_n hx hb dX4_preferredOf_65 rfl (lv_at hl 2 rfl) ?_
          refine lv_iload hx hb dX4_preferredOf_66 (lv_at hl 4 rfl) ?_
          refine k_Ri (va_runS (As := [.int (g c), .int (nI i)]) (rest := []) hF (c_X4_has l i (g c) (by omega)) (va_cwS 2 hts gX4_preferredOf_X4_has rfl rfl rfl (by decide +kernel) ⟨(Nat.le_of_ble_eq_true rfl), (Nat.le_of_ble_eq_true rfl)⟩) k_preS rfl rfl hl.1 rfl (lv_room (Nat.le_of_ble_eq_true rfl)) dX4_preferredOf_68 ⟨Nat.zero_le _, Nat.zero_le _⟩) ?_
          refine r_ifeqB (b := hasB (g c) i) (tgt := 84) hx hb dX4_preferredOf_71 (by decide) (fun h71_7 => ?_) (fun h71_7 => ?_)
          · refine lv_iload_n hx hb dX4_preferredOf_84 rfl (lv_at hl 3 rfl) ?_
            refine lv_istore_n (lv' := [(3, .int (nI (prefF (y 1) (g c) c i))), (5, .int (nI 0)), (0, .ref (ad 0)), (2, .int (g c)), (4, .int (nI i))]) hx hb dX4_preferredOf_85 rfl hl (by decide) rfl (fun ls hl => ?_)
            refine r_iincN (k := 4) (a := i) (d := 1) (r := i + 1) (lv' := [(4, .int (nI (i + 1))), (3, .int (nI (prefF (y 1) (g c) c i))), (5, .int (nI 0)), (0, .ref (ad 0)), (2, .int (g c))]) hx hb dX4_preferredOf_86 hl rfl (by omega) (by decide) rfl (fun ls hl => ?_)
            refine lv_goto (tgt := 11) hx hb dX4_preferredOf_89 (by decide) ?_
            exact ih11 _ (lv_cast (lv_sub (l' := [(0, .ref (ad 0)), (2, .int (g c)), (3, .int (nI (prefF (y 1) (g c) c i))), (4, .int (nI (i + 1)))]) hl [3, 4, 1, 0] rfl) (by rw [show (nI (prefF (y 1) (g c) c (i + 1)) : Int32) = nI (prefF (y 1) (g c) c i) from congrArg nI (by first | exact prefF_s2 (by assumption) | exact prefF_s1 (by assumption) (ahT (by first | exact Or.inl (by assumption) | exact Or.inr ⟨by assumption, by assumption⟩)) | exact prefF_s3 (ahF (by assumption) (by first | exact Or.inl (by assumption) | exact Or.inr (by omega))))]))
          · refine lv_iload hx hb dX4_preferredOf_74 (lv_at hl 0 rfl) ?_
            refine r_ifeqN (a := 0) (tgt := 84) hx hb (by omega) dX4_preferredOf_76 (by decide) (fun _ => ?_) (fun h => absurd h (by omega))
            refine lv_iload_n hx hb dX4_preferredOf_84 rfl (lv_at hl 3 rfl) ?_
            refine lv_istore_n (lv' := [(3, .int (nI (prefF (y 1) (g c) c i))), (5, .int (nI 0)), (0, .ref (ad 0)), (2, .int (g c)), (4, .int (nI i))]) hx hb dX4_preferredOf_85 rfl hl (by decide) rfl (fun ls hl => ?_)
            refine r_iincN (k := 4) (a := i) (d := 1) (r := i + 1) (lv' := [(4, .int (nI (i + 1))), (3, .int (nI (prefF (y 1) (g c) c i))), (5, .int (nI 0)), (0, .ref (ad 0)), (2, .int (g c))]) hx hb dX4_preferredOf_86 hl rfl (by omega) (by decide) rfl (fun ls hl => ?_)
            refine lv_goto (tgt := 11) hx hb dX4_preferredOf_89 (by decide) ?_
            exact ih11 _ (lv_cast (lv_sub (l' := [(0, .ref (ad 0)), (2, .int (g c)), (3, .int (nI (prefF (y 1) (g c) c i))), (4, .int (nI (i + 1)))]) hl [3, 4, 1, 0] rfl) (by rw [show (nI (prefF (y 1) (g c) c (i + 1)) : Int32) = nI (prefF (y 1) (g c) c i) from congrArg nI (by first | exact prefF_s2 (by assumption) | exact prefF_s1 (by assumption) (ahT (by first | exact Or.inl (by assumption) | exact Or.inr ⟨by assumption, by assumption⟩)) | exact prefF_s3 (ahF (by assumption) (by first | exact Or.inl (by assumption) | exact Or.inr (by omega))))]))
        · refine lv_iload hx hb dX4_preferredOf_52 (lv_at hl 3 rfl) ?_
          refine lv_iload_n hx hb dX4_preferredOf_54 rfl (lv_at hl 2 rfl) ?_
          refine r_cgeN (a := i) (b := prefF (y 1) (g c) c i) (tgt := 62) hx hb (by omega) (by omega) dX4_preferredOf_55 (by decide) (fun h55_9 => ?_) (fun h55_9 => ?_)
          · refine lv_iconst (v := nI 0) hx hb dX4_preferredOf_62 (by decide) ?_
            refine lv_istore (lv' := [(5, .int (nI 0)), (0, .ref (ad 0)), (2, .int (g c)), (3, .int (nI (prefF (y 1) (g c) c i))), (4, .int (nI i))]) hx hb dX4_preferredOf_63 hl (by decide) rfl (fun ls hl => ?_)
            refine lv_iload_n hx hb dX4_preferredOf_65 rfl (lv_at hl 2 rfl) ?_
            refine lv_iload hx hb dX4_preferredOf_66 (lv_at hl 4 rfl) ?_
            refine k_Ri (va_runS (As := [.int (g c), .int (nI i)]) (rest := []) hF (c_X4_has l i (g c) (by omega)) (va_cwS 2 hts gX4_preferredOf_X4_has rfl rfl rfl (by decide +kernel) ⟨(Nat.le_of_ble_eq_true rfl), (Nat.le_of_ble_eq_true rfl)⟩) k_preS rfl rfl hl.1 rfl (lv_room (Nat.le_of_ble_eq_true rfl)) dX4_preferredOf_68 ⟨Nat.zero_le _, Nat.zero_le _⟩) ?_
            refine r_ifeqB (b := hasB (g c) i) (tgt := 84) hx hb dX4_preferredOf_71 (by decide) (fun h71_10 => ?_) (fun h71_10 => ?_)
            · refine lv_iload_n hx hb dX4_preferredOf_84 rfl (lv_at hl 3 rfl) ?_
              refine lv_istore_n (lv' := [(3, .int (nI (prefF (y 1) (g c) c i))), (5, .int (nI 0)), (0, .ref (ad 0)), (2, .int (g c)), (4, .int (nI i))]) hx hb dX4_preferredOf_85 rfl hl (by decide) rfl (fun ls hl => ?_)
              refine r_iincN (k := 4) (a := i) (d := 1) (r := i + 1) (lv' := [(4, .int (nI (i + 1))), (3, .int (nI (prefF (y 1) (g c) c i))), (5, .int (nI 0)), (0, .ref (ad 0)), (2, .int (g c))]) hx hb dX4_preferredOf_86 hl rfl (by omega) (by decide) rfl (fun ls hl => ?_)
              refine lv_goto (tgt := 11) hx hb dX4_preferredOf_89 (by decide) ?_
              exact ih11 _ (lv_cast (lv_sub (l' := [(0, .ref (ad 0)), (2, .int (g c)), (3, .int (nI (prefF (y 1) (g c) c i))), (4, .int (nI (i + 1)))]) hl [3, 4, 1, 0] rfl) (by rw [show (nI (prefF (y 1) (g c) c (i + 1)) : Int32) = nI (prefF (y 1) (g c) c i) from congrArg nI (by first | exact prefF_s2 (by assumption) | exact prefF_s1 (by assumption) (ahT (by first | exact Or.inl (by assumption) | exact Or.inr ⟨by assumption, by assumption⟩)) | exact prefF_s3 (ahF (by assumption) (by first | exact Or.inl (by assumption) | exact Or.inr (by omega))))]))
            · refine lv_iload hx hb dX4_preferredOf_74 (lv_at hl 0 rfl) ?_
              refine r_ifeqN (a := 0) (tgt := 84) hx hb (by omega) dX4_preferredOf_76 (by decide) (fun _ => ?_) (fun h => absurd h (by omega))
              refine lv_iload_n hx hb dX4_preferredOf_84 rfl (lv_at hl 3 rfl) ?_
              refine lv_istore_n (lv' := [(3, .int (nI (prefF (y 1) (g c) c i))), (5, .int (nI 0)), (0, .ref (ad 0)), (2, .int (g c)), (4, .int (nI i))]) hx hb dX4_preferredOf_85 rfl hl (by decide) rfl (fun ls hl => ?_)
              refine r_iincN (k := 4) (a := i) (d := 1) (r := i + 1) (lv' := [(4, .int (nI (i + 1))), (3, .int (nI (prefF (y 1) (g c) c i))), (5, .int (nI 0)), (0, .ref (ad 0)), (2, .int (g c))]) hx hb dX4_preferredOf_86 hl rfl (by omega) (by decide) rfl (fun ls hl => ?_)
              refine lv_goto (tgt := 11) hx hb dX4_preferredOf_89 (by decide) ?_
              exact ih11 _ (lv_cast (lv_sub (l' := [(0, .ref (ad 0)), (2, .int (g c)), (3, .int (nI (prefF (y 1) (g c) c i))), (4, .int (nI (i + 1)))]) hl [3, 4, 1, 0] rfl) (by rw [show (nI (prefF (y 1) (g c) c (i + 1)) : Int32) = nI (prefF (y 1) (g c) c i) from congrArg nI (by first | exact prefF_s2 (by assumption) | exact prefF_s1 (by assumption) (ahT (by first | exact Or.inl (by assumption) | exact Or.inr ⟨by assumption, by assumption⟩)) | exact prefF_s3 (ahF (by assumption) (by first | exact Or.inl (by assumption) | exact Or.inr (by omega))))]))
          · refine lv_iconst (v := nI 1) hx hb dX4_preferredOf_58 (by decide) ?_
            refine lv_goto (tgt := 63) hx hb dX4_preferredOf_59 (by decide) ?_
            refine lv_istore (lv' := [(5, .int (nI 1)), (0, .ref (ad 0)), (2, .int (g c)), (3, .int (nI (prefF (y 1) (g c) c i))), (4, .int (nI i))]) hx hb dX4_preferredOf_63 hl (by decide) rfl (fun ls hl => ?_)
            refine lv_iload_n hx hb dX4_preferredOf_65 rfl (lv_at hl 2 rfl) ?_
            refine lv_iload hx hb dX4_preferredOf_66 (lv_at hl 4 rfl) ?_
            refine k_Ri (va_runS (As := [.int (g c), .int (nI i)]) (rest := []) hF (c_X4_has l i (g c) (by omega)) (va_cwS 2 hts gX4_preferredOf_X4_has rfl rfl rfl (by decide +kernel) ⟨(Nat.le_of_ble_eq_true rfl), (Nat.le_of_ble_eq_true rfl)⟩) k_preS rfl rfl hl.1 rfl (lv_room (Nat.le_of_ble_eq_true rfl)) dX4_preferredOf_68 ⟨Nat.zero_le _, Nat.zero_le _⟩) ?_
            refine r_ifeqB (b := hasB (g c) i) (tgt := 84) hx hb dX4_preferredOf_71 (by decide) (fun h71_12 => ?_) (fun h71_12 => ?_)
            · refine lv_iload_n hx hb dX4_preferredOf_84 rfl (lv_at hl 3 rfl) ?_
              refine lv_istore_n (lv' := [(3, .int (nI (prefF (y 1) (g c) c i))), (5, .int (nI 1)), (0, .ref (ad 0)), (2, .int (g c)), (4, .int (nI i))]) hx hb dX4_preferredOf_85 rfl hl (by decide) rfl (fun ls hl => ?_)
              refine r_iincN (k := 4) (a := i) (d := 1) (r := i + 1) (lv' := [(4, .int (nI (i + 1))), (3, .int (nI (prefF (y 1) (g c) c i))), (5, .int (nI 1)), (0, .ref (ad 0)), (2, .int (g c))]) hx hb dX4_preferredOf_86 hl rfl (by omega) (by decide) rfl (fun ls hl => ?_)
              refine lv_goto (tgt := 11) hx hb dX4_preferredOf_89 (by decide) ?_
              exact ih11 _ (lv_cast (lv_sub (l' := [(0, .ref (ad 0)), (2, .int (g c)), (3, .int (nI (prefF (y 1) (g c) c i))), (4, .int (nI (i + 1)))]) hl [3, 4, 1, 0] rfl) (by rw [show (nI (prefF (y 1) (g c) c (i + 1)) : Int32) = nI (prefF (y 1) (g c) c i) from congrArg nI (by first | exact prefF_s2 (by assumption) | exact prefF_s1 (by assumption) (ahT (by first | exact Or.inl (by assumption) | exact Or.inr ⟨by assumption, by assumption⟩)) | exact prefF_s3 (ahF (by assumption) (by first | exact Or.inl (by assumption) | exact Or.inr (by omega))))]))
            · refine lv_iload hx hb dX4_preferredOf_74 (lv_at hl 0 rfl) ?_
              refine r_ifeqN (a := 1) (tgt := 84) hx hb (by omega) dX4_preferredOf_76 (by decide) (fun h => absurd h (by omega)) (fun _ => ?_)
              refine lv_iload hx hb dX4_preferredOf_79 (lv_at hl 4 rfl) ?_
              refine lv_goto (tgt := 85) hx hb dX4_preferredOf_81 (by decide) ?_
              refine lv_istore_n (lv' := [(3, .int (nI i)), (5, .int (nI 1)), (0, .ref (ad 0)), (2, .int (g c)), (4, .int (nI i))]) hx hb dX4_preferredOf_85 rfl hl (by decide) rfl (fun ls hl => ?_)
              refine r_iincN (k := 4) (a := i) (d := 1) (r := i + 1) (lv' := [(4, .int (nI (i + 1))), (3, .int (nI i)), (5, .int (nI 1)), (0, .ref (ad 0)), (2, .int (g c))]) hx hb dX4_preferredOf_86 hl rfl (by omega) (by decide) rfl (fun ls hl => ?_)
              refine lv_goto (tgt := 11) hx hb dX4_preferredOf_89 (by decide) ?_
              exact ih11 _ (lv_cast (lv_sub (l' := [(0, .ref (ad 0)), (2, .int (g c)), (3, .int (nI i)), (4, .int (nI (i + 1)))]) hl [3, 4, 1, 0] rfl) (by rw [show (nI (prefF (y 1) (g c) c (i + 1)) : Int32) = nI i from congrArg nI (by first | exact prefF_s2 (by assumption) | exact prefF_s1 (by assumption) (ahT (by first | exact Or.inl (by assumption) | exact Or.inr ⟨by assumption, by assumption⟩)) | exact prefF_s3 (ahF (by assumption) (by first | exact Or.inl (by assumption) | exact Or.inr (by omega))))]))
  exact hL11 0 (Nat.zero_le _) _ (lv_cast (lv_sub (l' := [(0, .ref (ad 0)), (2, .int ((g c))), (3, .int (nI c)), (4, .int (nI 0))]) hl [3, 2, 1, 0] rfl) (by rw [show (g c : Int32) = (g c) from rfl, show (nI (prefF (y 1) (g c) c 0) : Int32) = nI c from rfl]))
set_option maxHeartbeats 4000000 in
set_option maxRecDepth 100000 in
theorem c_X4_shownOf (l : Launch) (D : va_G) (cI : ClassId) (cA : ClassId) (ad : Nat → Nat) (th : Int32) (n : Nat) (y : Nat → Nat → Int32) (c : Nat) (k : Nat) (g : Nat → Int32) (hc : c < n) (hn : n ≤ 24) (hk : k < 2) (hg : ∀ i, i < n → isGrp (y 4) n i (g i)) : Met l yX4_shownOf wsX4_shownOf ({ frames := 2, cells := 0, slots := 0, locals := 45 }) (va_Pc [.ref (ad 0), .int (nI c), .int (nI k)] (mX D cI cA ad th n y)) (qR (some (.int (orM (g c) (fun j => y 3 (6 * j + k)) n)))) 0 0 nF := by
  refine c_ofR (cc := cX4_shownOf) (maxL := 6) (ret := .int) (by decide) rfl rfl (Nat.le_of_ble_eq_true rfl) ?_
  intro p e s m av below meth cd Q hx hb hF hP hK hD hT hret ls hl
  have hown : s.vm.findClass RX4 = some m.cls := hF.2.2.2.1
  have hF : CallFix p m cd cX4_shownOf 6 s av wsX4_shownOf RX4 := hF
  have hts := hF.2.2.2.2
  have hl : lv_has ls 6 [(0, .ref (ad 0)), (1, .int (nI c)), (2, .int (nI k))] := hl
  refine lv_aload_n hx hb dX4_shownOf_0 rfl (lv_at hl 0 rfl) ?_
  refine lv_iload_n hx hb dX4_shownOf_1 rfl (lv_at hl 1 rfl) ?_
  refine k_Ri (va_runV (As := [.int (nI c)]) (rest := []) hF (c_X4_groupOf l D cI cA ad th n y c (g c) hc hn (hg c hc)) (cwV 1 hts gX4_shownOf_X4_groupOf rfl rfl rfl (by decide +kernel) ⟨(Nat.le_of_ble_eq_true rfl), (Nat.le_of_ble_eq_true rfl)⟩) (k_pre hP hK hD hT (k := 0) (by decide) mF_0 rfl) rfl rfl hl.1 rfl (lv_room (Nat.le_of_ble_eq_true rfl)) dX4_shownOf_2 ⟨Nat.zero_le _, Nat.zero_le _⟩) ?_
  refine lv_istore_n (lv' := [(3, .int ((g c))), (0, .ref (ad 0)), (1, .int (nI c)), (2, .int (nI k))]) hx hb dX4_shownOf_5 rfl hl (by decide) rfl (fun ls hl => ?_)
  refine lv_iconst (v := nI 0) hx hb dX4_shownOf_6 (by decide) ?_
  refine lv_istore (lv' := [(4, .int (nI 0)), (3, .int ((g c))), (0, .ref (ad 0)), (1, .int (nI c)), (2, .int (nI k))]) hx hb dX4_shownOf_7 hl (by decide) rfl (fun ls hl => ?_)
  refine lv_iconst (v := nI 0) hx hb dX4_shownOf_9 (by decide) ?_
  refine lv_istore (lv' := [(5, .int (nI 0)), (4, .int (nI 0)), (3, .int ((g c))), (0, .ref (ad 0)), (1, .int (nI c)), (2, .int (nI k))]) hx hb dX4_shownOf_10 hl (by decide) rfl (fun ls hl => ?_)
  have hL12 : ∀ i : Nat, i ≤ n → ∀ ls : Array Slot, lv_has ls 6 [(0, .ref (ad 0)), (2, .int (nI k)), (3, .int (g c)), (4, .int (orM (g c) (fun j => y 3 (6 * j + k)) i)), (5, .int (nI i))] → W p l e ({ frames := 2, cells := 0, slots := 0, locals := 45 }) s m av below meth cd s.heap [] 0 0 Q (F0 m 12 ls []) := by
    refine down (n) ?_ ?_
    · intro ls hl
      refine lv_iload hx hb dX4_shownOf_12 (lv_at hl 4 rfl) ?_
      refine lv_aload_n hx hb dX4_shownOf_14 rfl (lv_at hl 0 rfl) ?_
      refine r_get (C := RX4) (T := TX4) (M := 9) (index := 35) (fd := "cards") (fo := "I") hx hb hts (by decide +kernel) hown hK hP 0 (by decide) mF_0 rfl 7 (by decide) rfl (by decide +kernel) rfl dX4_shownOf_15 ?_
      refine r_cgeN (a := n) (b := n) (tgt := 57) hx hb (by omega) (by omega) dX4_shownOf_18 (by decide) (fun _ => ?_) (fun h => absurd h (by omega))
      refine lv_iload hx hb dX4_shownOf_57 (lv_at hl 3 rfl) ?_
      exact hret _ _ _ dX4_shownOf_59 (rfl)
    · intro i hi12 ih12 ls hl
      refine lv_iload hx hb dX4_shownOf_12 (lv_at hl 4 rfl) ?_
      refine lv_aload_n hx hb dX4_shownOf_14 rfl (lv_at hl 0 rfl) ?_
      refine r_get (C := RX4) (T := TX4) (M := 9) (index := 35) (fd := "cards") (fo := "I") hx hb hts (by decide +kernel) hown hK hP 0 (by decide) mF_0 rfl 7 (by decide) rfl (by decide +kernel) rfl dX4_shownOf_15 ?_
      refine r_cgeN (a := i) (b := n) (tgt := 57) hx hb (by omega) (by omega) dX4_shownOf_18 (by decide) (fun h => absurd h (by omega)) (fun _ => ?_)
      refine lv_iload hx hb dX4_shownOf_21 (lv_at hl 3 rfl) ?_
      refine lv_iload_n hx hb dX4_shownOf_23 rfl (lv_at hl 2 rfl) ?_
      refine lv_iload hx hb dX4_shownOf_24 (lv_at hl 4 rfl) ?_
      refine k_Ri (va_runS (As := [.int (g c), .int (nI i)]) (rest := [.int (orM (g c) (fun j => y 3 (6 * j + k)) i)]) hF (c_X4_has l i (g c) (by omega)) (va_cwS 2 hts gX4_shownOf_X4_has rfl rfl rfl (by decide +kernel) ⟨(Nat.le_of_ble_eq_true rfl), (Nat.le_of_ble_eq_true rfl)⟩) k_preS rfl rfl hl.1 rfl (lv_room (Nat.le_of_ble_eq_true rfl)) dX4_shownOf_26 ⟨Nat.zero_le _, Nat.zero_le _⟩) ?_
      refine r_ifeqB (b := hasB (g c) i) (tgt := 47) hx hb dX4_shownOf_29 (by decide) (fun h29_3 => ?_) (fun h29_3 => ?_)
      · refine lv_iconst (v := nI 0) hx hb dX4_shownOf_47 (by decide) ?_
        refine lv_ior hx hb dX4_shownOf_48 ?_
        refine lv_istore (lv' := [(4, .int ((orM (g c) (fun j => y 3 (6 * j + k)) i) ||| (nI 0))), (0, .ref (ad 0)), (2, .int (nI k)), (3, .int (g c)), (5, .int (nI i))]) hx hb dX4_shownOf_49 hl (by decide) rfl (fun ls hl => ?_)
        refine r_iincN (k := 4) (a := i) (d := 1) (r := i + 1) (lv' := [(5, .int (nI (i + 1))), (4, .int ((orM (g c) (fun j => y 3 (6 * j + k)) i) ||| (nI 0))), (0, .ref (ad 0)), (2, .int (nI k)), (3, .int (g c))]) hx hb dX4_shownOf_51 hl rfl (by omega) (by decide) rfl (fun ls hl => ?_)
        refine lv_goto (tgt := 12) hx hb dX4_shownOf_54 (by decide) ?_
        exact ih12 _ (lv_cast (lv_sub (l' := [(0, .ref (ad 0)), (2, .int (nI k)), (3, .int (g c)), (4, .int ((orM (g c) (fun j => y 3 (6 * j + k)) i) ||| (nI 0))), (5, .int (nI (i + 1)))]) hl [2, 3, 4, 1, 0] rfl) (by rw [show (orM (g c) (fun j => y 3 (6 * j + k)) (i + 1) : Int32) = (orM (g c) (fun j => y 3 (6 * j + k)) i) ||| (nI 0) from by simp [orM, h29_3]]))
      · refine lv_aload_n hx hb dX4_shownOf_32 rfl (lv_at hl 0 rfl) ?_
        refine r_get (C := RX4) (T := TX4) (M := 9) (index := 16) (fd := "set") (fo := "[I") hx hb hts (by decide +kernel) hown hK hP 0 (by decide) mF_0 rfl 3 (by decide) rfl (by decide +kernel) rfl dX4_shownOf_33 ?_
        refine lv_iload hx hb dX4_shownOf_36 (lv_at hl 4 rfl) ?_
        refine lv_iconst (v := nI 0) hx hb dX4_shownOf_38 (by decide) ?_
        refine lv_iload_n hx hb dX4_shownOf_39 rfl (lv_at hl 1 rfl) ?_
        refine k_Ri (va_runS (As := [.int (nI i), .int (nI 0), .int (nI k)]) (rest := [.ref (ad 3), .int (orM (g c) (fun j => y 3 (6 * j + k)) i)]) hF (c_X4_at l i 0 k (by omega) (by omega) hk) (va_cwS 3 hts gX4_shownOf_X4_at rfl rfl rfl (by decide +kernel) ⟨(Nat.le_of_ble_eq_true rfl), (Nat.le_of_ble_eq_true rfl)⟩) k_preS rfl rfl hl.1 rfl (lv_room (Nat.le_of_ble_eq_true rfl)) dX4_shownOf_40 ⟨Nat.zero_le _, Nat.zero_le _⟩) ?_
        refine r_topi (show (nI (6 * i + 2 * 0 + k) : Int32) = nI (6 * i + k) from congrArg nI (by omega)) ?_
        refine r_iald hx hb hK hP 3 0 (by omega) mF_3 rfl (i := 6 * i + k) (by omega) (by decide) dX4_shownOf_43 ?_
        refine lv_goto (tgt := 48) hx hb dX4_shownOf_44 (by decide) ?_
        refine lv_ior hx hb dX4_shownOf_48 ?_
        refine lv_istore (lv' := [(4, .int ((orM (g c) (fun j => y 3 (6 * j + k)) i) ||| (y 3 (6 * i + k)))), (0, .ref (ad 0)), (2, .int (nI k)), (3, .int (g c)), (5, .int (nI i))]) hx hb dX4_shownOf_49 hl (by decide) rfl (fun ls hl => ?_)
        refine r_iincN (k := 4) (a := i) (d := 1) (r := i + 1) (lv' := [(5, .int (nI (i + 1))), (4, .int ((orM (g c) (fun j => y 3 (6 * j + k)) i) ||| (y 3 (6 * i + k)))), (0, .ref (ad 0)), (2, .int (nI k)), (3, .int (g c))]) hx hb dX4_shownOf_51 hl rfl (by omega) (by decide) rfl (fun ls hl => ?_)
        refine lv_goto (tgt := 12) hx hb dX4_shownOf_54 (by decide) ?_
        exact ih12 _ (lv_cast (lv_sub (l' := [(0, .ref (ad 0)), (2, .int (nI k)), (3, .int (g c)), (4, .int ((orM (g c) (fun j => y 3 (6 * j + k)) i) ||| (y 3 (6 * i + k)))), (5, .int (nI (i + 1)))]) hl [2, 3, 4, 1, 0] rfl) (by rw [show (orM (g c) (fun j => y 3 (6 * j + k)) (i + 1) : Int32) = (orM (g c) (fun j => y 3 (6 * j + k)) i) ||| (y 3 (6 * i + k)) from by simp [orM, h29_3]]))
  exact hL12 0 (Nat.zero_le _) _ (lv_cast (lv_sub (l' := [(0, .ref (ad 0)), (2, .int (nI k)), (3, .int ((g c))), (4, .int (nI 0)), (5, .int (nI 0))]) hl [3, 5, 2, 1, 0] rfl) (by rw [show (g c : Int32) = (g c) from rfl, show (orM (g c) (fun j => y 3 (6 * j + k)) 0 : Int32) = nI 0 from rfl]))
