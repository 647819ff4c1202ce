set_option maxHeartbeats 4000000 in
set_option maxRecDepth 100000 in
theorem c_X4_finds (l : Launch) (D : va_G) (cI : ClassId) (cA : ClassId) (ad : Nat → Nat) (th : Int32) (n : Nat) (y : Nat → Nat → Int32) (g : Nat → Int32) (hn : n ≤ 24) (hg : ∀ i, i < n → isGrp (y 4) n i (g i)) : Met l yX4_finds wsX4_finds ({ frames := 2, cells := 0, slots := 0, locals := 46 }) (va_Pc [.ref (ad 0)] (mX D cI cA ad th n y)) (qW D ad (mF cI ad th n (mfS y g n)) 8 (some (.int (mfC y g n)))) 0 0 (wA ad 8) := by
  refine c_ofW (cc := cX4_finds) (maxL := 6) (ret := .int) (by decide) rfl rfl (Nat.le_of_ble_eq_true rfl) ?_
  intro p e s m av below meth cd Q hx hb hF hP hK hD hT hret ls hl
  have hown : s.vm.findClass RX4 = some m.cls := hF.2.2.2.1
  have hF : CallFix p m cd cX4_finds 6 s av wsX4_finds RX4 := hF
  have hts := hF.2.2.2.2
  have hl : lv_has ls 6 [(0, .ref (ad 0))] := hl
  obtain ⟨H, eH⟩ : ∃ H9 : Heap, H9 = s.heap := ⟨_, rfl⟩
  obtain ⟨locs, eL⟩ : ∃ L9 : List Loc, L9 = [] := ⟨_, rfl⟩
  have hS : sS (wA ad 8) s.heap H locs := by rw [eH, eL]; exact sS.rf
  rw [← eH] at hP
  suffices hgo : W p l e ({ frames := 2, cells := 0, slots := 0, locals := 46 }) s m av below meth cd H locs 0 0 Q (F0 m 0 ls []) by rw [eH, eL] at hgo; exact hgo
  clear eH eL
  refine lv_iconst (v := nI 0) hx hb dX4_finds_0 (by decide) ?_
  refine lv_istore_n (lv' := [(1, .int (nI 0)), (0, .ref (ad 0))]) hx hb dX4_finds_1 rfl hl (by decide) rfl (fun ls hl => ?_)
  refine lv_iconst (v := nI 0) hx hb dX4_finds_2 (by decide) ?_
  refine lv_istore_n (lv' := [(2, .int (nI 0)), (1, .int (nI 0)), (0, .ref (ad 0))]) hx hb dX4_finds_3 rfl hl (by decide) rfl (fun ls hl => ?_)
  have hL4 : ∀ i : Nat, i ≤ n → ∀ (H : Heap) (locs : List Loc), va_P D vwCl (wl ad (mF cI ad th n (fouS y g n i)) 8) H → sS (wA ad 8) s.heap H locs → ∀ ls : Array Slot, lv_has ls 6 [(0, .ref (ad 0)), (1, .int (fouC y g n i)), (2, .int (nI i))] → W p l e ({ frames := 2, cells := 0, slots := 0, locals := 46 }) s m av below meth cd H locs 0 0 Q (F0 m 4 ls []) := by
    refine down (n) ?_ ?_
    · intro H locs hP hS ls hl
      refine lv_iload_n hx hb dX4_finds_4 rfl (lv_at hl 2 rfl) ?_
      refine lv_aload_n hx hb dX4_finds_5 rfl (lv_at hl 0 rfl) ?_
      refine r_get (C := RX4) (T := TX4) (M := 9) (index := 35) (fd := "cards") (fo := "I") hx hb hts (by decide +kernel) hown hK hP 0 (by decide) mF_0 rfl 7 (by decide) rfl (by decide +kernel) rfl dX4_finds_6 ?_
      refine r_cgeN (a := n) (b := n) (tgt := 139) hx hb (by omega) (by omega) dX4_finds_9 (by decide) (fun _ => ?_) (fun h => absurd h (by omega))
      refine lv_iload_n hx hb dX4_finds_139 rfl (lv_at hl 1 rfl) ?_
      exact hret _ _ _ _ _ _ hP hS dX4_finds_140 (rfl) (rfl)
    · intro i hi4 ih4 H locs hP hS ls hl
      refine lv_iload_n hx hb dX4_finds_4 rfl (lv_at hl 2 rfl) ?_
      refine lv_aload_n hx hb dX4_finds_5 rfl (lv_at hl 0 rfl) ?_
      refine r_get (C := RX4) (T := TX4) (M := 9) (index := 35) (fd := "cards") (fo := "I") hx hb hts (by decide +kernel) hown hK hP 0 (by decide) mF_0 rfl 7 (by decide) rfl (by decide +kernel) rfl dX4_finds_6 ?_
      refine r_cgeN (a := i) (b := n) (tgt := 139) hx hb (by omega) (by omega) dX4_finds_9 (by decide) (fun h => absurd h (by omega)) (fun _ => ?_)
      obtain ⟨w, hw⟩ : ∃ w, n = i + 1 + w := ⟨n - (i + 1), by omega⟩
      refine lv_aload_n hx hb dX4_finds_12 rfl (lv_at hl 0 rfl) ?_
      refine lv_iload_n hx hb dX4_finds_13 rfl (lv_at hl 2 rfl) ?_
      refine k_Ri (va_runV (As := [.int (nI i)]) (rest := []) hF (c_X4_groupOf l D cI cA ad th n (fouS y g n i) i (g i) (by omega) hn (by rw [fouS_4 (by decide)]; exact hg i hi4)) (cwV 1 hts gX4_finds_X4_groupOf rfl rfl rfl (by decide +kernel) ⟨(Nat.le_of_ble_eq_true rfl), (Nat.le_of_ble_eq_true rfl)⟩) (k_pre hP hK hD hT (k := 0) (by decide) mF_0 rfl) rfl rfl hl.1 rfl (lv_room (Nat.le_of_ble_eq_true rfl)) dX4_finds_14 ⟨Nat.zero_le _, Nat.zero_le _⟩) ?_
      refine lv_istore_n (lv' := [(3, .int ((g i))), (0, .ref (ad 0)), (1, .int (fouC y g n i)), (2, .int (nI i))]) hx hb dX4_finds_17 rfl hl (by decide) rfl (fun ls hl => ?_)
      refine lv_iload_n hx hb dX4_finds_18 rfl (lv_at hl 3 rfl) ?_
      refine lv_iconst (v := nI 1) hx hb dX4_finds_19 (by decide) ?_
      refine r_addN (a := i) (b := 1) (r := i + 1) hx hb dX4_finds_20 (by omega) ?_
      refine lv_istore (lv' := [(4, .int (nI (i + 1))), (3, .int ((g i))), (0, .ref (ad 0)), (1, .int (fouC y g n i)), (2, .int (nI i))]) hx hb dX4_finds_21 hl (by decide) rfl (fun ls hl => ?_)
      have hL23 : ∀ k : Nat, k ≤ w → ∀ (H : Heap) (locs : List Loc), va_P D vwCl (wl ad (mF cI ad th n (finS (fouS y g n i) g i k)) 8) H → sS (wA ad 8) s.heap H locs → ∀ ls : Array Slot, lv_has ls 6 [(0, .ref (ad 0)), (1, .int (finC (fouS y g n i) g i (fouC y g n i) k)), (2, .int (nI i)), (3, .int (g i)), (4, .int (nI (k + i + 1)))] → W p l e ({ frames := 2, cells := 0, slots := 0, locals := 46 }) s m av below meth cd H locs 0 0 Q (F0 m 23 ls []) := by
        refine down (w) ?_ ?_
        · intro H locs hP hS ls hl
          refine lv_iload hx hb dX4_finds_23 (lv_at hl 4 rfl) ?_
          refine lv_aload_n hx hb dX4_finds_25 rfl (lv_at hl 0 rfl) ?_
          refine r_get (C := RX4) (T := TX4) (M := 9) (index := 35) (fd := "cards") (fo := "I") hx hb hts (by decide +kernel) hown hK hP 0 (by decide) mF_0 rfl 7 (by decide) rfl (by decide +kernel) rfl dX4_finds_26 ?_
          refine r_cgeN (a := w + i + 1) (b := n) (tgt := 133) hx hb (by omega) (by omega) dX4_finds_29 (by decide) (fun _ => ?_) (fun h => absurd h (by omega))
          refine r_iincN (k := 2) (a := i) (d := 1) (r := i + 1) (lv' := [(2, .int (nI (i + 1))), (0, .ref (ad 0)), (1, .int (finC (fouS y g n i) g i (fouC y g n i) w)), (3, .int (g i)), (4, .int (nI (w + i + 1)))]) hx hb dX4_finds_133 hl rfl (by omega) (by decide) rfl (fun ls hl => ?_)
          refine lv_goto (tgt := 4) hx hb dX4_finds_136 (by decide) ?_
          exact ih4 _ _ (by rw [show mF cI ad th n (fouS y g n (i + 1)) = mF cI ad th n (finS (fouS y g n i) g i w) from by rw [fouS_s hw]]; exact hP) hS _ (lv_cast (lv_sub (l' := [(0, .ref (ad 0)), (1, .int (finC (fouS y g n i) g i (fouC y g n i) w)), (2, .int (nI (i + 1)))]) hl [1, 2, 0] rfl) (by rw [show (fouC y g n (i + 1) : Int32) = finC (fouS y g n i) g i (fouC y g n i) w from by rw [fouC_s hw]]))
        · intro k hi23 ih23 H locs hP hS ls hl
          refine lv_iload hx hb dX4_finds_23 (lv_at hl 4 rfl) ?_
          refine lv_aload_n hx hb dX4_finds_25 rfl (lv_at hl 0 rfl) ?_
          refine r_get (C := RX4) (T := TX4) (M := 9) (index := 35) (fd := "cards") (fo := "I") hx hb hts (by decide +kernel) hown hK hP 0 (by decide) mF_0 rfl 7 (by decide) rfl (by decide +kernel) rfl dX4_finds_26 ?_
          refine r_cgeN (a := k + i + 1) (b := n) (tgt := 133) hx hb (by omega) (by omega) dX4_finds_29 (by decide) (fun h => absurd h (by omega)) (fun _ => ?_)
          refine lv_iload_n hx hb dX4_finds_32 rfl (lv_at hl 3 rfl) ?_
          refine lv_iload hx hb dX4_finds_33 (lv_at hl 4 rfl) ?_
          refine k_Ri (va_runS (As := [.int (g i), .int (nI (k + i + 1))]) (rest := []) hF (c_X4_has l (k + i + 1) (g i) (by omega)) (va_cwS 2 hts gX4_finds_X4_has rfl rfl rfl (by decide +kernel) ⟨(Nat.le_of_ble_eq_true rfl), (Nat.le_of_ble_eq_true rfl)⟩) k_preS rfl rfl hl.1 rfl (lv_room (Nat.le_of_ble_eq_true rfl)) dX4_finds_35 ⟨Nat.zero_le _, Nat.zero_le _⟩) ?_
          refine r_ifneB (b := hasB (g i) (k + i + 1)) (tgt := 73) hx hb dX4_finds_38 (by decide) (fun h38_5 => ?_) (fun h38_5 => ?_)
          · refine lv_iconst (v := nI 0) hx hb dX4_finds_73 (by decide) ?_
            refine lv_istore (lv' := [(5, .int (nI 0)), (0, .ref (ad 0)), (1, .int (finC (fouS y g n i) g i (fouC y g n i) k)), (2, .int (nI i)), (3, .int (g i)), (4, .int (nI (k + i + 1)))]) hx hb dX4_finds_74 hl (by decide) rfl (fun ls hl => ?_)
            refine lv_aload_n hx hb dX4_finds_76 rfl (lv_at hl 1 rfl) ?_
            refine r_get (C := RX4) (T := TX4) (M := 9) (index := 28) (fd := "scores") (fo := "[I") hx hb hts (by decide +kernel) hown hK hP 0 (by decide) mF_0 rfl 8 (by decide) rfl (by decide +kernel) rfl dX4_finds_77 ?_
            refine lv_bipush (v := nI 24) hx hb dX4_finds_80 (by decide) ?_
            refine lv_iload_n hx hb dX4_finds_82 rfl (lv_at hl 3 rfl) ?_
            refine r_mulN (a := 24) (b := i) (r := 24 * i) hx hb dX4_finds_83 (by omega) ?_
            refine lv_iload hx hb dX4_finds_84 (lv_at hl 5 rfl) ?_
            refine r_addN (a := 24 * i) (b := k + i + 1) (r := 25 * i + k + 1) hx hb dX4_finds_86 (by omega) ?_
            refine lv_iload hx hb dX4_finds_87 (lv_at hl 0 rfl) ?_
            refine r_ifeqN (a := 0) (tgt := 102) hx hb (by omega) dX4_finds_89 (by decide) (fun _ => ?_) (fun h => absurd h (by omega))
            refine lv_iconst (v := nI 0) hx hb dX4_finds_102 (by decide) ?_
            refine r_iast (f' := mF cI ad th n (up2 (finS (fouS y g n i) g i k) 7 (25 * i + k + 1) (nI 0))) hx hb hK hP hD hS 7 0 (by omega) mF_7 rfl (i := 25 * i + k + 1) (by omega) (by decide) (mF_up mF_7 (by decide)) dX4_finds_103 (fun H locs hP hS => ?_)
            refine lv_iload_n hx hb dX4_finds_104 rfl (lv_at hl 2 rfl) ?_
            refine lv_aload_n hx hb dX4_finds_105 rfl (lv_at hl 1 rfl) ?_
            refine r_get (C := RX4) (T := TX4) (M := 9) (index := 28) (fd := "scores") (fo := "[I") hx hb hts (by decide +kernel) hown hK hP 0 (by decide) mF_0 rfl 8 (by decide) rfl (by decide +kernel) rfl dX4_finds_106 ?_
            refine lv_bipush (v := nI 24) hx hb dX4_finds_109 (by decide) ?_
            refine lv_iload_n hx hb dX4_finds_111 rfl (lv_at hl 3 rfl) ?_
            refine r_mulN (a := 24) (b := i) (r := 24 * i) hx hb dX4_finds_112 (by omega) ?_
            refine lv_iload hx hb dX4_finds_113 (lv_at hl 5 rfl) ?_
            refine r_addN (a := 24 * i) (b := k + i + 1) (r := 25 * i + k + 1) hx hb dX4_finds_115 (by omega) ?_
            refine r_iald hx hb hK hP 7 0 (by omega) mF_7 rfl (i := 25 * i + k + 1) (by omega) (by decide) dX4_finds_116 ?_
            refine r_topi (show (up2 (finS (fouS y g n i) g i k) 7 (25 * i + k + 1) (nI 0)) 7 (25 * i + k + 1) = nI 0 from up2_self) ?_
            refine r_ifleN (a := 0) (tgt := 124) hx hb (by omega) dX4_finds_117 (by decide) (fun _ => ?_) (fun h => absurd h (by omega))
            refine lv_iconst (v := nI 0) hx hb dX4_finds_124 (by decide) ?_
            refine lv_iadd hx hb dX4_finds_125 ?_
            refine lv_istore_n (lv' := [(1, .int ((finC (fouS y g n i) g i (fouC y g n i) k) + (nI 0))), (5, .int (nI 0)), (0, .ref (ad 0)), (2, .int (nI i)), (3, .int (g i)), (4, .int (nI (k + i + 1)))]) hx hb dX4_finds_126 rfl hl (by decide) rfl (fun ls hl => ?_)
            refine r_iincN (k := 5) (a := k + i + 1) (d := 1) (r := k + i + 2) (lv' := [(4, .int (nI (k + i + 2))), (1, .int ((finC (fouS y g n i) g i (fouC y g n i) k) + (nI 0))), (5, .int (nI 0)), (0, .ref (ad 0)), (2, .int (nI i)), (3, .int (g i))]) hx hb dX4_finds_127 hl rfl (by omega) (by decide) rfl (fun ls hl => ?_)
            refine lv_goto (tgt := 23) hx hb dX4_finds_130 (by decide) ?_
            exact ih23 _ _ (by rw [show mF cI ad th n (finS (fouS y g n i) g i (k + 1)) = mF cI ad th n (up2 (finS (fouS y g n i) g i k) 7 (25 * i + k + 1) (nI 0)) from by simp [finS, fV, fndB, h38_5]]; exact hP) hS _ (lv_cast (lv_sub (l' := [(0, .ref (ad 0)), (1, .int ((finC (fouS y g n i) g i (fouC y g n i) k) + (nI 0))), (2, .int (nI i)), (3, .int (g i)), (4, .int (nI (k + i + 2)))]) hl [3, 1, 4, 5, 0] rfl) (by rw [show (finC (fouS y g n i) g i (fouC y g n i) (k + 1) : Int32) = (finC (fouS y g n i) g i (fouC y g n i) k) + (nI 0) from by simp [finC, fV, fndB, nI00, h38_5], show (nI ((k + 1) + i + 1) : Int32) = nI (k + i + 2) from congrArg nI (by omega)]))
          · refine lv_aload_n hx hb dX4_finds_41 rfl (lv_at hl 0 rfl) ?_
            refine r_get (C := RX4) (T := TX4) (M := 9) (index := 22) (fd := "good") (fo := "[I") hx hb hts (by decide +kernel) hown hK hP 0 (by decide) mF_0 rfl 5 (by decide) rfl (by decide +kernel) rfl dX4_finds_42 ?_
            refine lv_iload_n hx hb dX4_finds_45 rfl (lv_at hl 2 rfl) ?_
            refine r_iald hx hb hK hP 5 0 (by omega) (mF_a 5 (by omega)) rfl (i := i) (by omega) (by decide) dX4_finds_46 ?_
            refine lv_iload hx hb dX4_finds_47 (lv_at hl 4 rfl) ?_
            refine k_Ri (va_runS (As := [.int ((finS (fouS y g n i) g i k) 5 i), .int (nI (k + i + 1))]) (rest := []) hF (c_X4_has l (k + i + 1) ((finS (fouS y g n i) g i k) 5 i) (by omega)) (va_cwS 2 hts gX4_finds_X4_has rfl rfl rfl (by decide +kernel) ⟨(Nat.le_of_ble_eq_true rfl), (Nat.le_of_ble_eq_true rfl)⟩) k_preS rfl rfl hl.1 rfl (lv_room (Nat.le_of_ble_eq_true rfl)) dX4_finds_49 ⟨Nat.zero_le _, Nat.zero_le _⟩) ?_
            refine r_ifneB (b := hasB ((finS (fouS y g n i) g i k) 5 i) (k + i + 1)) (tgt := 73) hx hb dX4_finds_52 (by decide) (fun h52_8 => ?_) (fun h52_8 => ?_)
            · refine lv_iconst (v := nI 0) hx hb dX4_finds_73 (by decide) ?_
              refine lv_istore (lv' := [(5, .int (nI 0)), (0, .ref (ad 0)), (1, .int (finC (fouS y g n i) g i (fouC y g n i) k)), (2, .int (nI i)), (3, .int (g i)), (4, .int (nI (k + i + 1)))]) hx hb dX4_finds_74 hl (by decide) rfl (fun ls hl => ?_)
              refine lv_aload_n hx hb dX4_finds_76 rfl (lv_at hl 1 rfl) ?_
              refine r_get (C := RX4) (T := TX4) (M := 9) (index := 28) (fd := "scores") (fo := "[I") hx hb hts (by decide +kernel) hown hK hP 0 (by decide) mF_0 rfl 8 (by decide) rfl (by decide +kernel) rfl dX4_finds_77 ?_
              refine lv_bipush (v := nI 24) hx hb dX4_finds_80 (by decide) ?_
              refine lv_iload_n hx hb dX4_finds_82 rfl (lv_at hl 3 rfl) ?_
              refine r_mulN (a := 24) (b := i) (r := 24 * i) hx hb dX4_finds_83 (by omega) ?_
              refine lv_iload hx hb dX4_finds_84 (lv_at hl 5 rfl) ?_
              refine r_addN (a := 24 * i) (b := k + i + 1) (r := 25 * i + k + 1) hx hb dX4_finds_86 (by omega) ?_
              refine lv_iload hx hb dX4_finds_87 (lv_at hl 0 rfl) ?_
              refine r_ifeqN (a := 0) (tgt := 102) hx hb (by omega) dX4_finds_89 (by decide) (fun _ => ?_) (fun h => absurd h (by omega))
              refine lv_iconst (v := nI 0) hx hb dX4_finds_102 (by decide) ?_
              refine r_iast (f' := mF cI ad th n (up2 (finS (fouS y g n i) g i k) 7 (25 * i + k + 1) (nI 0))) hx hb hK hP hD hS 7 0 (by omega) mF_7 rfl (i := 25 * i + k + 1) (by omega) (by decide) (mF_up mF_7 (by decide)) dX4_finds_103 (fun H locs hP hS => ?_)
              refine lv_iload_n hx hb dX4_finds_104 rfl (lv_at hl 2 rfl) ?_
              refine lv_aload_n hx hb dX4_finds_105 rfl (lv_at hl 1 rfl) ?_
              refine r_get (C := RX4) (T := TX4) (M := 9) (index := 28) (fd := "scores") (fo := "[I") hx hb hts (by decide +kernel) hown hK hP 0 (by decide) mF_0 rfl 8 (by decide) rfl (by decide +kernel) rfl dX4_finds_106 ?_
              refine lv_bipush (v := nI 24) hx hb dX4_finds_109 (by decide) ?_
              refine lv_iload_n hx hb dX4_finds_111 rfl (lv_at hl 3 rfl) ?_
              refine r_mulN (a := 24) (b := i) (r := 24 * i) hx hb dX4_finds_112 (by omega) ?_
              refine lv_iload hx hb dX4_finds_113 (lv_at hl 5 rfl) ?_
              refine r_addN (a := 24 * i) (b := k + i + 1) (r := 25 * i + k + 1) hx hb dX4_finds_115 (by omega) ?_
              refine r_iald hx hb hK hP 7 0 (by omega) mF_7 rfl (i := 25 * i + k + 1) (by omega) (by decide) dX4_finds_116 ?_
              refine r_topi (show (up2 (finS (fouS y g n i) g i k) 7 (25 * i + k + 1) (nI 0)) 7 (25 * i + k + 1) = nI 0 from up2_self) ?_
              refine r_ifleN (a := 0) (tgt := 124) hx hb (by omega) dX4_finds_117 (by decide) (fun _ => ?_) (fun h => absurd h (by omega))
              refine lv_iconst (v := nI 0) hx hb dX4_finds_124 (by decide) ?_
              refine lv_iadd hx hb dX4_finds_125 ?_
              refine lv_istore_n (lv' := [(1, .int ((finC (fouS y g n i) g i (fouC y g n i) k) + (nI 0))), (5, .int (nI 0)), (0, .ref (ad 0)), (2, .int (nI i)), (3, .int (g i)), (4, .int (nI (k + i + 1)))]) hx hb dX4_finds_126 rfl hl (by decide) rfl (fun ls hl => ?_)
              refine r_iincN (k := 5) (a := k + i + 1) (d := 1) (r := k + i + 2) (lv' := [(4, .int (nI (k + i + 2))), (1, .int ((finC (fouS y g n i) g i (fouC y g n i) k) + (nI 0))), (5, .int (nI 0)), (0, .ref (ad 0)), (2, .int (nI i)), (3, .int (g i))]) hx hb dX4_finds_127 hl rfl (by omega) (by decide) rfl (fun ls hl => ?_)
              refine lv_goto (tgt := 23) hx hb dX4_finds_130 (by decide) ?_
              exact ih23 _ _ (by rw [show mF cI ad th n (finS (fouS y g n i) g i (k + 1)) = mF cI ad th n (up2 (finS (fouS y g n i) g i k) 7 (25 * i + k + 1) (nI 0)) from by simp [finS, fV, fndB, h38_5, h52_8]]; exact hP) hS _ (lv_cast (lv_sub (l' := [(0, .ref (ad 0)), (1, .int ((finC (fouS y g n i) g i (fouC y g n i) k) + (nI 0))), (2, .int (nI i)), (3, .int (g i)), (4, .int (nI (k + i + 2)))]) hl [3, 1, 4, 5, 0] rfl) (by rw [show (finC (fouS y g n i) g i (fouC y g n i) (k + 1) : Int32) = (finC (fouS y g n i) g i (fouC y g n i) k) + (nI 0) from by simp [finC, fV, fndB, nI00, h38_5, h52_8], show (nI ((k + 1) + i + 1) : Int32) = nI (k + i + 2) from congrArg nI (by omega)]))
            · refine lv_aload_n hx hb dX4_finds_55 rfl (lv_at hl 0 rfl) ?_
              refine r_get (C := RX4) (T := TX4) (M := 9) (index := 25) (fd := "forNow") (fo := "[I") hx hb hts (by decide +kernel) hown hK hP 0 (by decide) mF_0 rfl 6 (by decide) rfl (by decide +kernel) rfl dX4_finds_56 ?_
              refine lv_iload_n hx hb dX4_finds_59 rfl (lv_at hl 2 rfl) ?_
              refine r_iald hx hb hK hP 6 0 (by omega) (mF_a 6 (by omega)) rfl (i := i) (by omega) (by decide) dX4_finds_60 ?_
              refine lv_iload hx hb dX4_finds_61 (lv_at hl 4 rfl) ?_
              refine k_Ri (va_runS (As := [.int ((finS (fouS y g n i) g i k) 6 i), .int (nI (k + i + 1))]) (rest := []) hF (c_X4_has l (k + i + 1) ((finS (fouS y g n i) g i k) 6 i) (by omega)) (va_cwS 2 hts gX4_finds_X4_has rfl rfl rfl (by decide +kernel) ⟨(Nat.le_of_ble_eq_true rfl), (Nat.le_of_ble_eq_true rfl)⟩) k_preS rfl rfl hl.1 rfl (lv_room (Nat.le_of_ble_eq_true rfl)) dX4_finds_63 ⟨Nat.zero_le _, Nat.zero_le _⟩) ?_
              refine r_ifneB (b := hasB ((finS (fouS y g n i) g i k) 6 i) (k + i + 1)) (tgt := 73) hx hb dX4_finds_66 (by decide) (fun h66_11 => ?_) (fun h66_11 => ?_)
              · refine lv_iconst (v := nI 0) hx hb dX4_finds_73 (by decide) ?_
                refine lv_istore (lv' := [(5, .int (nI 0)), (0, .ref (ad 0)), (1, .int (finC (fouS y g n i) g i (fouC y g n i) k)), (2, .int (nI i)), (3, .int (g i)), (4, .int (nI (k + i + 1)))]) hx hb dX4_finds_74 hl (by decide) rfl (fun ls hl => ?_)
                refine lv_aload_n hx hb dX4_finds_76 rfl (lv_at hl 1 rfl) ?_
                refine r_get (C := RX4) (T := TX4) (M := 9) (index := 28) (fd := "scores") (fo := "[I") hx hb hts (by decide +kernel) hown hK hP 0 (by decide) mF_0 rfl 8 (by decide) rfl (by decide +kernel) rfl dX4_finds_77 ?_
                refine lv_bipush (v := nI 24) hx hb dX4_finds_80 (by decide) ?_
                refine lv_iload_n hx hb dX4_finds_82 rfl (lv_at hl 3 rfl) ?_
                refine r_mulN (a := 24) (b := i) (r := 24 * i) hx hb dX4_finds_83 (by omega) ?_
                refine lv_iload hx hb dX4_finds_84 (lv_at hl 5 rfl) ?_
                refine r_addN (a := 24 * i) (b := k + i + 1) (r := 25 * i + k + 1) hx hb dX4_finds_86 (by omega) ?_
                refine lv_iload hx hb dX4_finds_87 (lv_at hl 0 rfl) ?_
                refine r_ifeqN (a := 0) (tgt := 102) hx hb (by omega) dX4_finds_89 (by decide) (fun _ => ?_) (fun h => absurd h (by omega))
                refine lv_iconst (v := nI 0) hx hb dX4_finds_102 (by decide) ?_
                refine r_iast (f' := mF cI ad th n (up2 (finS (fouS y g n i) g i k) 7 (25 * i + k + 1) (nI 0))) hx hb hK hP hD hS 7 0 (by omega) mF_7 rfl (i := 25 * i + k + 1) (by omega) (by decide) (mF_up mF_7 (by decide)) dX4_finds_103 (fun H locs hP hS => ?_)
                refine lv_iload_n hx hb dX4_finds_104 rfl (lv_at hl 2 rfl) ?_
                refine lv_aload_n hx hb dX4_finds_105 rfl (lv_at hl 1 rfl) ?_
                refine r_get (C := RX4) (T := TX4) (M := 9) (index := 28) (fd := "scores") (fo := "[I") hx hb hts (by decide +kernel) hown hK hP 0 (by decide) mF_0 rfl 8 (by decide) rfl (by decide +kernel) rfl dX4_finds_106 ?_
                refine lv_bipush (v := nI 24) hx hb dX4_finds_109 (by decide) ?_
                refine lv_iload_n hx hb dX4_finds_111 rfl (lv_at hl 3 rfl) ?_
                refine r_mulN (a := 24) (b := i) (r := 24 * i) hx hb dX4_finds_112 (by omega) ?_
                refine lv_iload hx hb dX4_finds_113 (lv_at hl 5 rfl) ?_
                refine r_addN (a := 24 * i) (b := k + i + 1) (r := 25 * i + k + 1) hx hb dX4_finds_115 (by omega) ?_
                refine r_iald hx hb hK hP 7 0 (by omega) mF_7 rfl (i := 25 * i + k + 1) (by omega) (by decide) dX4_finds_116 ?_
                refine r_topi (show (up2 (finS (fouS y g n i) g i k) 7 (25 * i + k + 1) (nI 0)) 7 (25 * i + k + 1) = nI 0 from up2_self) ?_
                refine r_ifleN (a := 0) (tgt := 124) hx hb (by omega) dX4_finds_117 (by decide) (fun _ => ?_) (fun h => absurd h (by omega))
                refine lv_iconst (v := nI 0) hx hb dX4_finds_124 (by decide) ?_
                refine lv_iadd hx hb dX4_finds_125 ?_
                refine lv_istore_n (lv' := [(1, .int ((finC (fouS y g n i) g i (fouC y g n i) k) + (nI 0))), (5, .int (nI 0)), (0, .ref (ad 0)), (2, .int (nI i)), (3, .int (g i)), (4, .int (nI (k + i + 1)))]) hx hb dX4_finds_126 rfl hl (by decide) rfl (fun ls hl => ?_)
                refine r_iincN (k := 5) (a := k + i + 1) (d := 1) (r := k + i + 2) (lv' := [(4, .int (nI (k + i + 2))), (1, .int ((finC (fouS y g n i) g i (fouC y g n i) k) + (nI 0))), (5, .int (nI 0)), (0, .ref (ad 0)), (2, .int (nI i)), (3, .int (g i))]) hx hb dX4_finds_127 hl rfl (by omega) (by decide) rfl (fun ls hl => ?_)
                refine lv_goto (tgt := 23) hx hb dX4_finds_130 (by decide) ?_
                exact ih23 _ _ (by rw [show mF cI ad th n (finS (fouS y g n i) g i (k + 1)) = mF cI ad th n (up2 (finS (fouS y g n i) g i k) 7 (25 * i + k + 1) (nI 0)) from by simp [finS, fV, fndB, h38_5, h52_8, h66_11]]; exact hP) hS _ (lv_cast (lv_sub (l' := [(0, .ref (ad 0)), (1, .int ((finC (fouS y g n i) g i (fouC y g n i) k) + (nI 0))), (2, .int (nI i)), (3, .int (g i)), (4, .int (nI (k + i + 2)))]) hl [3, 1, 4, 5, 0] rfl) (by rw [show (finC (fouS y g n i) g i (fouC y g n i) (k + 1) : Int32) = (finC (fouS y g n i) g i (fouC y g n i) k) + (nI 0) from by simp [finC, fV, fndB, nI00, h38_5, h52_8, h66_11], show (nI ((k + 1) + i + 1) : Int32) = nI (k + i + 2) from congrArg nI (by omega)]))
              · refine lv_iconst (v := nI 1) hx hb dX4_finds_69 (by decide) ?_
                refine lv_goto (tgt := 74) hx hb dX4_finds_70 (by decide) ?_
                refine lv_istore (lv' := [(5, .int (nI 1)), (0, .ref (ad 0)), (1, .int (finC (fouS y g n i) g i (fouC y g n i) k)), (2, .int (nI i)), (3, .int (g i)), (4, .int (nI (k + i + 1)))]) hx hb dX4_finds_74 hl (by decide) rfl (fun ls hl => ?_)
                refine lv_aload_n hx hb dX4_finds_76 rfl (lv_at hl 1 rfl) ?_
                refine r_get (C := RX4) (T := TX4) (M := 9) (index := 28) (fd := "scores") (fo := "[I") hx hb hts (by decide +kernel) hown hK hP 0 (by decide) mF_0 rfl 8 (by decide) rfl (by decide +kernel) rfl dX4_finds_77 ?_
                refine lv_bipush (v := nI 24) hx hb dX4_finds_80 (by decide) ?_
                refine lv_iload_n hx hb dX4_finds_82 rfl (lv_at hl 3 rfl) ?_
                refine r_mulN (a := 24) (b := i) (r := 24 * i) hx hb dX4_finds_83 (by omega) ?_
                refine lv_iload hx hb dX4_finds_84 (lv_at hl 5 rfl) ?_
                refine r_addN (a := 24 * i) (b := k + i + 1) (r := 25 * i + k + 1) hx hb dX4_finds_86 (by omega) ?_
                refine lv_iload hx hb dX4_finds_87 (lv_at hl 0 rfl) ?_
                refine r_ifeqN (a := 1) (tgt := 102) hx hb (by omega) dX4_finds_89 (by decide) (fun h => absurd h (by omega)) (fun _ => ?_)
                refine lv_aload_n hx hb dX4_finds_92 rfl (lv_at hl 1 rfl) ?_
                refine lv_iload_n hx hb dX4_finds_93 rfl (lv_at hl 3 rfl) ?_
                refine lv_iload hx hb dX4_finds_94 (lv_at hl 5 rfl) ?_
                refine k_Ri (va_runV (As := [.int (nI i), .int (nI (k + i + 1))]) (rest := [.int (nI (25 * i + k + 1)), .ref (ad 7)]) hF (c_X4_alike l D cI cA ad th n (finS (fouS y g n i) g i k) i (k + i + 1) (by omega) (by omega)) (cwV 2 hts gX4_finds_X4_alike rfl rfl rfl (by decide +kernel) ⟨(Nat.le_of_ble_eq_true rfl), (Nat.le_of_ble_eq_true rfl)⟩) (k_pre hP hK hD hT (k := 0) (by decide) mF_0 rfl) rfl rfl hl.1 rfl (lv_room (Nat.le_of_ble_eq_true rfl)) dX4_finds_96 ⟨Nat.zero_le _, Nat.zero_le _⟩) ?_
                refine lv_goto (tgt := 103) hx hb dX4_finds_99 (by decide) ?_
                refine r_iast (f' := mF cI ad th n (up2 (finS (fouS y g n i) g i k) 7 (25 * i + k + 1) (alk (finS (fouS y g n i) g i k) i (k + i + 1)))) hx hb hK hP hD hS 7 0 (by omega) mF_7 rfl (i := 25 * i + k + 1) (by omega) (by decide) (mF_up mF_7 (by decide)) dX4_finds_103 (fun H locs hP hS => ?_)
                refine lv_iload_n hx hb dX4_finds_104 rfl (lv_at hl 2 rfl) ?_
                refine lv_aload_n hx hb dX4_finds_105 rfl (lv_at hl 1 rfl) ?_
                refine r_get (C := RX4) (T := TX4) (M := 9) (index := 28) (fd := "scores") (fo := "[I") hx hb hts (by decide +kernel) hown hK hP 0 (by decide) mF_0 rfl 8 (by decide) rfl (by decide +kernel) rfl dX4_finds_106 ?_
                refine lv_bipush (v := nI 24) hx hb dX4_finds_109 (by decide) ?_
                refine lv_iload_n hx hb dX4_finds_111 rfl (lv_at hl 3 rfl) ?_
                refine r_mulN (a := 24) (b := i) (r := 24 * i) hx hb dX4_finds_112 (by omega) ?_
                refine lv_iload hx hb dX4_finds_113 (lv_at hl 5 rfl) ?_
                refine r_addN (a := 24 * i) (b := k + i + 1) (r := 25 * i + k + 1) hx hb dX4_finds_115 (by omega) ?_
                refine r_iald hx hb hK hP 7 0 (by omega) mF_7 rfl (i := 25 * i + k + 1) (by omega) (by decide) dX4_finds_116 ?_
                refine r_topi (show (up2 (finS (fouS y g n i) g i k) 7 (25 * i + k + 1) (alk (finS (fouS y g n i) g i k) i (k + i + 1))) 7 (25 * i + k + 1) = alk (finS (fouS y g n i) g i k) i (k + i + 1) from up2_self) ?_
                refine lv_if_le (tgt := 124) hx hb dX4_finds_117 (by decide) (fun h117_15 => ?_) (fun h117_15 => ?_)
                · refine lv_iconst (v := nI 0) hx hb dX4_finds_124 (by decide) ?_
                  refine lv_iadd hx hb dX4_finds_125 ?_
                  refine lv_istore_n (lv' := [(1, .int ((finC (fouS y g n i) g i (fouC y g n i) k) + (nI 0))), (5, .int (nI 1)), (0, .ref (ad 0)), (2, .int (nI i)), (3, .int (g i)), (4, .int (nI (k + i + 1)))]) hx hb dX4_finds_126 rfl hl (by decide) rfl (fun ls hl => ?_)
                  refine r_iincN (k := 5) (a := k + i + 1) (d := 1) (r := k + i + 2) (lv' := [(4, .int (nI (k + i + 2))), (1, .int ((finC (fouS y g n i) g i (fouC y g n i) k) + (nI 0))), (5, .int (nI 1)), (0, .ref (ad 0)), (2, .int (nI i)), (3, .int (g i))]) hx hb dX4_finds_127 hl rfl (by omega) (by decide) rfl (fun ls hl => ?_)
                  refine lv_goto (tgt := 23) hx hb dX4_finds_130 (by decide) ?_
                  exact ih23 _ _ (by rw [show mF cI ad th n (finS (fouS y g n i) g i (k + 1)) = mF cI ad th n (up2 (finS (fouS y g n i) g i k) 7 (25 * i + k + 1) (alk (finS (fouS y g n i) g i k) i (k + i + 1))) from by simp [finS, fV, fndB, h38_5, h52_8, h66_11, h117_15]]; exact hP) hS _ (lv_cast (lv_sub (l' := [(0, .ref (ad 0)), (1, .int ((finC (fouS y g n i) g i (fouC y g n i) k) + (nI 0))), (2, .int (nI i)), (3, .int (g i)), (4, .int (nI (k + i + 2)))]) hl [3, 1, 4, 5, 0] rfl) (by rw [show (finC (fouS y g n i) g i (fouC y g n i) (k + 1) : Int32) = (finC (fouS y g n i) g i (fouC y g n i) k) + (nI 0) from by simp [finC, fV, fndB, nI00, h38_5, h52_8, h66_11, h117_15], show (nI ((k + 1) + i + 1) : Int32) = nI (k + i + 2) from congrArg nI (by omega)]))
                · refine lv_iconst (v := nI 1) hx hb dX4_finds_120 (by decide) ?_
                  refine lv_goto (tgt := 125) hx hb dX4_finds_121 (by decide) ?_
                  refine lv_iadd hx hb dX4_finds_125 ?_
                  refine lv_istore_n (lv' := [(1, .int ((finC (fouS y g n i) g i (fouC y g n i) k) + (nI 1))), (5, .int (nI 1)), (0, .ref (ad 0)), (2, .int (nI i)), (3, .int (g i)), (4, .int (nI (k + i + 1)))]) hx hb dX4_finds_126 rfl hl (by decide) rfl (fun ls hl => ?_)
                  refine r_iincN (k := 5) (a := k + i + 1) (d := 1) (r := k + i + 2) (lv' := [(4, .int (nI (k + i + 2))), (1, .int ((finC (fouS y g n i) g i (fouC y g n i) k) + (nI 1))), (5, .int (nI 1)), (0, .ref (ad 0)), (2, .int (nI i)), (3, .int (g i))]) hx hb dX4_finds_127 hl rfl (by omega) (by decide) rfl (fun ls hl => ?_)
                  refine lv_goto (tgt := 23) hx hb dX4_finds_130 (by decide) ?_
                  exact ih23 _ _ (by rw [show mF cI ad th n (finS (fouS y g n i) g i (k + 1)) = mF cI ad th n (up2 (finS (fouS y g n i) g i k) 7 (25 * i + k + 1) (alk (finS (fouS y g n i) g i k) i (k + i + 1))) from by simp [finS, fV, fndB, h38_5, h52_8, h66_11, h117_15]]; exact hP) hS _ (lv_cast (lv_sub (l' := [(0, .ref (ad 0)), (1, .int ((finC (fouS y g n i) g i (fouC y g n i) k) + (nI 1))), (2, .int (nI i)), (3, .int (g i)), (4, .int (nI (k + i + 2)))]) hl [3, 1, 4, 5, 0] rfl) (by rw [show (finC (fouS y g n i) g i (fouC y g n i) (k + 1) : Int32) = (finC (fouS y g n i) g i (fouC y g n i) k) + (nI 1) from by simp [finC, fV, fndB, nI00, h38_5, h52_8, h66_11, h117_15], show (nI ((k + 1) + i + 1) : Int32) = nI (k + i + 2) from congrArg nI (by omega)]))
      exact hL23 0 (Nat.zero_le _) _ _ (by rw [show mF cI ad th n (finS (fouS y g n i) g i 0) = mF cI ad th n (fouS y g n i) from rfl]; exact hP) hS _ (lv_cast (lv_sub (l' := [(0, .ref (ad 0)), (1, .int (fouC y g n i)), (2, .int (nI i)), (3, .int ((g i))), (4, .int (nI (i + 1)))]) hl [2, 3, 4, 1, 0] rfl) (by rw [show (finC (fouS y g n i) g i (fouC y g n i) 0 : Int32) = fouC y g n i from rfl, show (g i : Int32) = (g i) from rfl, show (nI (0 + i + 1) : Int32) = nI (i + 1) from congrArg nI (by omega)]))
  exact hL4 0 (Nat.zero_le _) _ _ (by rw [show mF cI ad th n (fouS y g n 0) = mF cI ad th n y from rfl]; exact hP) hS _ (lv_cast (lv_sub (l' := [(0, .ref (ad 0)), (1, .int (nI 0)), (2, .int (nI 0))]) hl [2, 1, 0] rfl) (by rw [show (fouC y g n 0 : Int32) = nI 0 from rfl]))
set_option maxHeartbeats 4000000 in
set_option maxRecDepth 100000 in
theorem c_X4_pairs (l : Launch) (D : va_G) (cI : ClassId) (cA : ClassId) (ad : Nat → Nat) (th : Int32) (n : Nat) (y : Nat → Nat → Int32) (g : Nat → Int32) (hn : n ≤ 24) (hg : ∀ i, i < n → isGrp (y 4) n i (g i)) : Met l yX4_pairs wsX4_pairs ({ frames := 3, cells := 0, slots := 0, locals := 71 }) (va_Pc [.ref (ad 0)] (mX D cI cA ad th n y)) (qW D ad (mF cI ad (nI 0) n (mfS y g n)) 8 (some (.int (mfC y g n)))) 0 0 (wA ad 8) := by
  refine c_ofW (cc := cX4_pairs) (maxL := 1) (ret := .int) (by decide) rfl rfl (Nat.le_of_ble_eq_true rfl) ?_
  intro p e s m av below meth cd Q hx hb hF hP hK hD hT hret ls hl
  have hown : s.vm.findClass RX4 = some m.cls := hF.2.2.2.1
  have hF : CallFix p m cd cX4_pairs 1 s av wsX4_pairs RX4 := hF
  have hts := hF.2.2.2.2
  have hl : lv_has ls 1 [(0, .ref (ad 0))] := hl
  obtain ⟨H, eH⟩ : ∃ H9 : Heap, H9 = s.heap := ⟨_, rfl⟩
  obtain ⟨locs, eL⟩ : ∃ L9 : List Loc, L9 = [] := ⟨_, rfl⟩
  have hS : sS (wA ad 8) s.heap H locs := by rw [eH, eL]; exact sS.rf
  rw [← eH] at hP
  suffices hgo : W p l e ({ frames := 3, cells := 0, slots := 0, locals := 71 }) s m av below meth cd H locs 0 0 Q (F0 m 0 ls []) by rw [eH, eL] at hgo; exact hgo
  clear eH eL
  refine lv_aload_n hx hb dX4_pairs_0 rfl (lv_at hl 0 rfl) ?_
  refine lv_iconst (v := nI 0) hx hb dX4_pairs_1 (by decide) ?_
  refine r_put (C := RX4) (T := TX4) (M := 9) (index := 31) (fd := "thrown") (f' := mF cI ad (nI 0) n y) hx hb hts (by decide +kernel) tyX4 tyX4_ok nmX4 hown hK hP hD hS 0 (by decide) mF_0 rfl 0 (by decide) rfl (by decide +kernel) (Nat.le_of_ble_eq_true rfl) mF_th dX4_pairs_2 (fun H locs hP hS => ?_)
  refine lv_aload_n hx hb dX4_pairs_5 rfl (lv_at hl 0 rfl) ?_
  refine k_Wi (va_runV (As := []) (rest := []) hF (c_X4_finds l D cI cA ad (nI 0) n y g hn hg) (cwV 0 hts gX4_pairs_X4_finds rfl rfl rfl (by decide +kernel) ⟨(Nat.le_of_ble_eq_true rfl), (Nat.le_of_ble_eq_true rfl)⟩) (k_pre hP hK hD hT (k := 0) (by decide) mF_0 rfl) rfl rfl hl.1 rfl (lv_room (Nat.le_of_ble_eq_true rfl)) dX4_pairs_6 ⟨Nat.zero_le _, Nat.zero_le _⟩) hD hS (fun H locs hP hS => ?_)
  exact hret _ _ _ _ _ _ hP hS dX4_pairs_9 (rfl) (rfl)
set_option maxHeartbeats 4000000 in
set_option maxRecDepth 100000 in
theorem m_turnDown_g (l : Launch) (D : va_G) (cI : ClassId) (cA : ClassId) (ad : Nat → Nat) (th : Int32) (n : Nat) (y : Nat → Nat → Int32) (c : Nat) (d : Nat) (g : Nat → Int32) (hc : c < n) (hd : d < n) (hne : c ≠ d) (hn : n ≤ 24) (hg : ∀ i, i < n → isGrp (y 4) n i (g i)) (hsu : msug y g c d = true) : Met l yX4_turnDown wsX4_turnDown ({ frames := 4, cells := 0, slots := 0, locals := 90 }) (va_Pc [.ref (ad 0), .int (nI c), .int (nI d), .int (bI true)] (mX D cI cA ad th n y)) (qW D ad (mF cI ad (nI 0) n (mfS (tdG y c d (bit d) (bit c) (nI 0) (nI 0)) g n)) 8 (some (.int (mfC (tdG y c d (bit d) (bit c) (nI 0) (nI 0)) g n)))) 0 0 (wA ad 8) := by
  refine c_ofW (cc := cX4_turnDown) (maxL := 5) (ret := .int) (by decide) rfl rfl (Nat.le_of_ble_eq_true rfl) ?_
  intro p e s m av below meth cd Q hx hb hF hP hK hD hT hret ls hl
  have hown : s.vm.findClass RX4 = some m.cls := hF.2.2.2.1
  have hF : CallFix p m cd cX4_turnDown 5 s av wsX4_turnDown RX4 := hF
  have hts := hF.2.2.2.2
  have hl : lv_has ls 5 [(0, .ref (ad 0)), (1, .int (nI c)), (2, .int (nI d)), (3, .int (bI true))] := hl
  obtain ⟨H, eH⟩ : ∃ H9 : Heap, H9 = s.heap := ⟨_, rfl⟩
  obtain ⟨locs, eL⟩ : ∃ L9 : List Loc, L9 = [] := ⟨_, rfl⟩
  have hS : sS (wA ad 8) s.heap H locs := by rw [eH, eL]; exact sS.rf
  rw [← eH] at hP
  suffices hgo : W p l e ({ frames := 4, cells := 0, slots := 0, locals := 90 }) s m av below meth cd H locs 0 0 Q (F0 m 0 ls []) by rw [eH, eL] at hgo; exact hgo
  clear eH eL
  refine lv_aload_n hx hb dX4_turnDown_0 rfl (lv_at hl 0 rfl) ?_
  refine lv_iload_n hx hb dX4_turnDown_1 rfl (lv_at hl 1 rfl) ?_
  refine k_Ri (va_runV (As := [.int (nI c)]) (rest := []) hF (c_X4_isCard l D cI cA ad th n y (nI c) hn) (cwV 1 hts gX4_turnDown_X4_isCard rfl rfl rfl (by decide +kernel) ⟨(Nat.le_of_ble_eq_true rfl), (Nat.le_of_ble_eq_true rfl)⟩) (k_pre hP hK hD hT (k := 0) (by decide) mF_0 rfl) rfl rfl hl.1 rfl (lv_room (Nat.le_of_ble_eq_true rfl)) dX4_turnDown_2 ⟨Nat.zero_le _, Nat.zero_le _⟩) ?_
  refine r_topi (show bI (cardB n (nI c)) = bI true from congrArg bI (cardB_ok hc hn)) ?_
  refine r_ifeqB (b := true) (tgt := 20) hx hb dX4_turnDown_5 (by decide) (fun h => absurd h (by decide)) (fun _ => ?_)
  refine lv_aload_n hx hb dX4_turnDown_8 rfl (lv_at hl 0 rfl) ?_
  refine lv_iload_n hx hb dX4_turnDown_9 rfl (lv_at hl 2 rfl) ?_
  refine k_Ri (va_runV (As := [.int (nI d)]) (rest := []) hF (c_X4_isCard l D cI cA ad th n y (nI d) hn) (cwV 1 hts gX4_turnDown_X4_isCard rfl rfl rfl (by decide +kernel) ⟨(Nat.le_of_ble_eq_true rfl), (Nat.le_of_ble_eq_true rfl)⟩) (k_pre hP hK hD hT (k := 0) (by decide) mF_0 rfl) rfl rfl hl.1 rfl (lv_room (Nat.le_of_ble_eq_true rfl)) dX4_turnDown_10 ⟨Nat.zero_le _, Nat.zero_le _⟩) ?_
  refine r_topi (show bI (cardB n (nI d)) = bI true from congrArg bI (cardB_ok hd hn)) ?_
  refine r_ifeqB (b := true) (tgt := 20) hx hb dX4_turnDown_13 (by decide) (fun h => absurd h (by decide)) (fun _ => ?_)
  refine lv_iconst (v := nI 1) hx hb dX4_turnDown_16 (by decide) ?_
  refine lv_goto (tgt := 21) hx hb dX4_turnDown_17 (by decide) ?_
  refine lv_istore (lv' := [(4, .int (nI 1)), (0, .ref (ad 0)), (1, .int (nI c)), (2, .int (nI d)), (3, .int (bI true))]) hx hb dX4_turnDown_21 hl (by decide) rfl (fun ls hl => ?_)
  refine lv_aload_n hx hb dX4_turnDown_23 rfl (lv_at hl 1 rfl) ?_
  refine lv_iload hx hb dX4_turnDown_24 (lv_at hl 0 rfl) ?_
  refine r_ifneN (a := 1) (tgt := 33) hx hb (by omega) dX4_turnDown_26 (by decide) (fun _ => ?_) (fun h => absurd h (by omega))
  refine lv_iload_n hx hb dX4_turnDown_33 rfl (lv_at hl 2 rfl) ?_
  refine lv_iload_n hx hb dX4_turnDown_34 rfl (lv_at hl 3 rfl) ?_
  refine r_cneN (a := c) (b := d) (tgt := 42) hx hb (by omega) (by omega) dX4_turnDown_35 (by decide) (fun _ => ?_) (fun h => absurd h (by omega))
  refine lv_aload_n hx hb dX4_turnDown_42 rfl (lv_at hl 1 rfl) ?_
  refine lv_iload_n hx hb dX4_turnDown_43 rfl (lv_at hl 2 rfl) ?_
  refine lv_iload_n hx hb dX4_turnDown_44 rfl (lv_at hl 3 rfl) ?_
  refine k_Ri (va_runV (As := [.int (nI c), .int (nI d)]) (rest := [.ref (ad 0)]) hF (c_X4_isSuggested l D cI cA ad th n y c d g hc hd hn hg) (cwV 2 hts gX4_turnDown_X4_isSuggested rfl rfl rfl (by decide +kernel) ⟨(Nat.le_of_ble_eq_true rfl), (Nat.le_of_ble_eq_true rfl)⟩) (k_pre hP hK hD hT (k := 0) (by decide) mF_0 rfl) rfl rfl hl.1 rfl (lv_room (Nat.le_of_ble_eq_true rfl)) dX4_turnDown_45 ⟨Nat.zero_le _, Nat.zero_le _⟩) ?_
  refine r_topi (show bI (msug y g c d) = bI true from congrArg bI (hsu)) ?_
  refine r_ifneB (b := true) (tgt := 55) hx hb dX4_turnDown_48 (by decide) (fun _ => ?_) (fun h => absurd h (by decide))
  refine lv_iconst (v := nI 0) hx hb dX4_turnDown_55 (by decide) ?_
  refine k_Wi (va_runV (As := [.int (nI 0)]) (rest := []) hF (c_X4_isFine_0 l D cI cA ad th n y) (cwV 1 hts gX4_turnDown_X4_isFine rfl rfl rfl (by decide +kernel) ⟨(Nat.le_of_ble_eq_true rfl), (Nat.le_of_ble_eq_true rfl)⟩) (k_pre hP hK hD hT (k := 0) (by decide) mF_0 rfl) rfl rfl hl.1 rfl (lv_room (Nat.le_of_ble_eq_true rfl)) dX4_turnDown_56 ⟨Nat.zero_le _, Nat.zero_le _⟩) hD hS (fun H locs hP hS => ?_)
  refine r_ifneB (b := true) (tgt := 64) hx hb dX4_turnDown_59 (by decide) (fun _ => ?_) (fun h => absurd h (by decide))
  refine lv_aload_n hx hb dX4_turnDown_64 rfl (lv_at hl 1 rfl) ?_
  refine r_get (C := RX4) (T := TX4) (M := 9) (index := 22) (fd := "good") (fo := "[I") hx hb hts (by decide +kernel) hown hK hP 0 (by decide) mF_0 rfl 5 (by decide) rfl (by decide +kernel) rfl dX4_turnDown_65 ?_
  refine lv_iload_n hx hb dX4_turnDown_68 rfl (lv_at hl 2 rfl) ?_
  refine lv_dup2_11 hx hb dX4_turnDown_69 rfl rfl ?_
  refine r_iald hx hb hK hP 5 0 (by omega) (mF_a 5 (by omega)) rfl (i := c) (by omega) (by decide) dX4_turnDown_70 ?_
  refine lv_iload_n hx hb dX4_turnDown_71 rfl (lv_at hl 4 rfl) ?_
  refine r_ifeqB (b := true) (tgt := 81) hx hb dX4_turnDown_72 (by decide) (fun h => absurd h (by decide)) (fun _ => ?_)
  refine lv_iconst (v := nI 1) hx hb dX4_turnDown_75 (by decide) ?_
  refine lv_iload_n hx hb dX4_turnDown_76 rfl (lv_at hl 3 rfl) ?_
  refine r_bit hx hb dX4_turnDown_77 ?_
  refine lv_goto (tgt := 82) hx hb dX4_turnDown_78 (by decide) ?_
  refine lv_ior hx hb dX4_turnDown_82 ?_
  refine r_iast (f' := mF cI ad (nI 0) n (up2 y 5 c ((y 5 c) ||| (bit d)))) hx hb hK hP hD hS 5 0 (by omega) (mF_a 5 (by omega)) rfl (i := c) (by omega) (by decide) (mF_up (mF_a 5 (by omega)) (by decide)) dX4_turnDown_83 (fun H locs hP hS => ?_)
  refine lv_aload_n hx hb dX4_turnDown_84 rfl (lv_at hl 1 rfl) ?_
  refine r_get (C := RX4) (T := TX4) (M := 9) (index := 22) (fd := "good") (fo := "[I") hx hb hts (by decide +kernel) hown hK hP 0 (by decide) mF_0 rfl 5 (by decide) rfl (by decide +kernel) rfl dX4_turnDown_85 ?_
  refine lv_iload_n hx hb dX4_turnDown_88 rfl (lv_at hl 3 rfl) ?_
  refine lv_dup2_11 hx hb dX4_turnDown_89 rfl rfl ?_
  refine r_iald hx hb hK hP 5 0 (by omega) (mF_a 5 (by omega)) rfl (i := d) (by omega) (by decide) dX4_turnDown_90 ?_
  refine lv_iload_n hx hb dX4_turnDown_91 rfl (lv_at hl 4 rfl) ?_
  refine r_ifeqB (b := true) (tgt := 101) hx hb dX4_turnDown_92 (by decide) (fun h => absurd h (by decide)) (fun _ => ?_)
  refine lv_iconst (v := nI 1) hx hb dX4_turnDown_95 (by decide) ?_
  refine lv_iload_n hx hb dX4_turnDown_96 rfl (lv_at hl 2 rfl) ?_
  refine r_bit hx hb dX4_turnDown_97 ?_
  refine lv_goto (tgt := 102) hx hb dX4_turnDown_98 (by decide) ?_
  refine lv_ior hx hb dX4_turnDown_102 ?_
  refine r_iast (f' := mF cI ad (nI 0) n (up2 (up2 y 5 c ((y 5 c) ||| (bit d))) 5 d (((up2 y 5 c ((y 5 c) ||| (bit d))) 5 d) ||| (bit c)))) hx hb hK hP hD hS 5 0 (by omega) (mF_a 5 (by omega)) rfl (i := d) (by omega) (by decide) (mF_up (mF_a 5 (by omega)) (by decide)) dX4_turnDown_103 (fun H locs hP hS => ?_)
  refine lv_aload_n hx hb dX4_turnDown_104 rfl (lv_at hl 1 rfl) ?_
  refine r_get (C := RX4) (T := TX4) (M := 9) (index := 25) (fd := "forNow") (fo := "[I") hx hb hts (by decide +kernel) hown hK hP 0 (by decide) mF_0 rfl 6 (by decide) rfl (by decide +kernel) rfl dX4_turnDown_105 ?_
  refine lv_iload_n hx hb dX4_turnDown_108 rfl (lv_at hl 2 rfl) ?_
  refine lv_dup2_11 hx hb dX4_turnDown_109 rfl rfl ?_
  refine r_iald hx hb hK hP 6 0 (by omega) (mF_a 6 (by omega)) rfl (i := c) (by omega) (by decide) dX4_turnDown_110 ?_
  refine lv_iload_n hx hb dX4_turnDown_111 rfl (lv_at hl 4 rfl) ?_
  refine r_ifeqB (b := true) (tgt := 119) hx hb dX4_turnDown_112 (by decide) (fun h => absurd h (by decide)) (fun _ => ?_)
  refine lv_iconst (v := nI 0) hx hb dX4_turnDown_115 (by decide) ?_
  refine lv_goto (tgt := 122) hx hb dX4_turnDown_116 (by decide) ?_
  refine lv_ior hx hb dX4_turnDown_122 ?_
  refine r_iast (f' := mF cI ad (nI 0) n (up2 (up2 (up2 y 5 c ((y 5 c) ||| (bit d))) 5 d (((up2 y 5 c ((y 5 c) ||| (bit d))) 5 d) ||| (bit c))) 6 c (((up2 (up2 y 5 c ((y 5 c) ||| (bit d))) 5 d (((up2 y 5 c ((y 5 c) ||| (bit d))) 5 d) ||| (bit c))) 6 c) ||| (nI 0)))) hx hb hK hP hD hS 6 0 (by omega) (mF_a 6 (by omega)) rfl (i := c) (by omega) (by decide) (mF_up (mF_a 6 (by omega)) (by decide)) dX4_turnDown_123 (fun H locs hP hS => ?_)
  refine lv_aload_n hx hb dX4_turnDown_124 rfl (lv_at hl 1 rfl) ?_
  refine r_get (C := RX4) (T := TX4) (M := 9) (index := 25) (fd := "forNow") (fo := "[I") hx hb hts (by decide +kernel) hown hK hP 0 (by decide) mF_0 rfl 6 (by decide) rfl (by decide +kernel) rfl dX4_turnDown_125 ?_
  refine lv_iload_n hx hb dX4_turnDown_128 rfl (lv_at hl 3 rfl) ?_
  refine lv_dup2_11 hx hb dX4_turnDown_129 rfl rfl ?_
  refine r_iald hx hb hK hP 6 0 (by omega) (mF_a 6 (by omega)) rfl (i := d) (by omega) (by decide) dX4_turnDown_130 ?_
  refine lv_iload_n hx hb dX4_turnDown_131 rfl (lv_at hl 4 rfl) ?_
  refine r_ifeqB (b := true) (tgt := 139) hx hb dX4_turnDown_132 (by decide) (fun h => absurd h (by decide)) (fun _ => ?_)
  refine lv_iconst (v := nI 0) hx hb dX4_turnDown_135 (by decide) ?_
  refine lv_goto (tgt := 142) hx hb dX4_turnDown_136 (by decide) ?_
  refine lv_ior hx hb dX4_turnDown_142 ?_
  refine r_iast (f' := mF cI ad (nI 0) n (up2 (up2 (up2 (up2 y 5 c ((y 5 c) ||| (bit d))) 5 d (((up2 y 5 c ((y 5 c) ||| (bit d))) 5 d) ||| (bit c))) 6 c (((up2 (up2 y 5 c ((y 5 c) ||| (bit d))) 5 d (((up2 y 5 c ((y 5 c) ||| (bit d))) 5 d) ||| (bit c))) 6 c) ||| (nI 0))) 6 d (((up2 (up2 (up2 y 5 c ((y 5 c) ||| (bit d))) 5 d (((up2 y 5 c ((y 5 c) ||| (bit d))) 5 d) ||| (bit c))) 6 c (((up2 (up2 y 5 c ((y 5 c) ||| (bit d))) 5 d (((up2 y 5 c ((y 5 c) ||| (bit d))) 5 d) ||| (bit c))) 6 c) ||| (nI 0))) 6 d) ||| (nI 0)))) hx hb hK hP hD hS 6 0 (by omega) (mF_a 6 (by omega)) rfl (i := d) (by omega) (by decide) (mF_up (mF_a 6 (by omega)) (by decide)) dX4_turnDown_143 (fun H locs hP hS => ?_)
  refine lv_aload_n hx hb dX4_turnDown_144 rfl (lv_at hl 1 rfl) ?_
  refine k_Wi (va_runV (As := []) (rest := []) hF (c_X4_finds l D cI cA ad (nI 0) n (up2 (up2 (up2 (up2 y 5 c ((y 5 c) ||| (bit d))) 5 d (((up2 y 5 c ((y 5 c) ||| (bit d))) 5 d) ||| (bit c))) 6 c (((up2 (up2 y 5 c ((y 5 c) ||| (bit d))) 5 d (((up2 y 5 c ((y 5 c) ||| (bit d))) 5 d) ||| (bit c))) 6 c) ||| (nI 0))) 6 d (((up2 (up2 (up2 y 5 c ((y 5 c) ||| (bit d))) 5 d (((up2 y 5 c ((y 5 c) ||| (bit d))) 5 d) ||| (bit c))) 6 c (((up2 (up2 y 5 c ((y 5 c) ||| (bit d))) 5 d (((up2 y 5 c ((y 5 c) ||| (bit d))) 5 d) ||| (bit c))) 6 c) ||| (nI 0))) 6 d) ||| (nI 0))) g hn (fun i hi => (congrArg (fun L => isGrp L n i (g i)) (tdG_4 (y := y) (c := c) (d := d) (s1 := bit d) (s2 := bit c) (t1 := nI 0) (t2 := nI 0))).mpr (hg i hi))) (cwV 0 hts gX4_turnDown_X4_finds rfl rfl rfl (by decide +kernel) ⟨(Nat.le_of_ble_eq_true rfl), (Nat.le_of_ble_eq_true rfl)⟩) (k_pre hP hK hD hT (k := 0) (by decide) mF_0 rfl) rfl rfl hl.1 rfl (lv_room (Nat.le_of_ble_eq_true rfl)) dX4_turnDown_145 ⟨Nat.zero_le _, Nat.zero_le _⟩) hD hS (fun H locs hP hS => ?_)
  exact hret _ _ _ _ _ _ hP hS dX4_turnDown_148 (rfl) (rfl)
set_option maxHeartbeats 4000000 in
set_option maxRecDepth 100000 in
theorem m_turnDown_n (l : Launch) (D : va_G) (cI : ClassId) (cA : ClassId) (ad : Nat → Nat) (th : Int32) (n : Nat) (y : Nat → Nat → Int32) (c : Nat) (d : Nat) (g : Nat → Int32) (hc : c < n) (hd : d < n) (hne : c ≠ d) (hn : n ≤ 24) (hg : ∀ i, i < n → isGrp (y 4) n i (g i)) (hsu : msug y g c d = true) : Met l yX4_turnDown wsX4_turnDown ({ frames := 4, cells := 0, slots := 0, locals := 90 }) (va_Pc [.ref (ad 0), .int (nI c), .int (nI d), .int (bI false)] (mX D cI cA ad th n y)) (qW D ad (mF cI ad (nI 0) n (mfS (tdG y c d (nI 0) (nI 0) (bit d) (bit c)) g n)) 8 (some (.int (mfC (tdG y c d (nI 0) (nI 0) (bit d) (bit c)) g n)))) 0 0 (wA ad 8) := by
  refine c_ofW (cc := cX4_turnDown) (maxL := 5) (ret := .int) (by decide) rfl rfl (Nat.le_of_ble_eq_true rfl) ?_
  intro p e s m av below meth cd Q hx hb hF hP hK hD hT hret ls hl
  have hown : s.vm.findClass RX4 = some m.cls := hF.2.2.2.1
  have hF : CallFix p m cd cX4_turnDown 5 s av wsX4_turnDown RX4 := hF
  have hts := hF.2.2.2.2
  have hl : lv_has ls 5 [(0, .ref (ad 0)), (1, .int (nI c)), (2, .int (nI d)), (3, .int (bI false))] := hl
  obtain ⟨H, eH⟩ : ∃ H9 : Heap, H9 = s.heap := ⟨_, rfl⟩
  obtain ⟨locs, eL⟩ : ∃ L9 : List Loc, L9 = [] := ⟨_, rfl⟩
  have hS : sS (wA ad 8) s.heap H locs := by rw [eH, eL]; exact sS.rf
  rw [← eH] at hP
  suffices hgo : W p l e ({ frames := 4, cells := 0, slots := 0, locals := 90 }) s m av below meth cd H locs 0 0 Q (F0 m 0 ls []) by rw [eH, eL] at hgo; exact hgo
  clear eH eL
  refine lv_aload_n hx hb dX4_turnDown_0 rfl (lv_at hl 0 rfl) ?_
  refine lv_iload_n hx hb dX4_turnDown_1 rfl (lv_at hl 1 rfl) ?_
  refine k_Ri (va_runV (As := [.int (nI c)]) (rest := []) hF (c_X4_isCard l D cI cA ad th n y (nI c) hn) (cwV 1 hts gX4_turnDown_X4_isCard rfl rfl rfl (by decide +kernel) ⟨(Nat.le_of_ble_eq_true rfl), (Nat.le_of_ble_eq_true rfl)⟩) (k_pre hP hK hD hT (k := 0) (by decide) mF_0 rfl) rfl rfl hl.1 rfl (lv_room (Nat.le_of_ble_eq_true rfl)) dX4_turnDown_2 ⟨Nat.zero_le _, Nat.zero_le _⟩) ?_
  refine r_topi (show bI (cardB n (nI c)) = bI true from congrArg bI (cardB_ok hc hn)) ?_
  refine r_ifeqB (b := true) (tgt := 20) hx hb dX4_turnDown_5 (by decide) (fun h => absurd h (by decide)) (fun _ => ?_)
  refine lv_aload_n hx hb dX4_turnDown_8 rfl (lv_at hl 0 rfl) ?_
  refine lv_iload_n hx hb dX4_turnDown_9 rfl (lv_at hl 2 rfl) ?_
  refine k_Ri (va_runV (As := [.int (nI d)]) (rest := []) hF (c_X4_isCard l D cI cA ad th n y (nI d) hn) (cwV 1 hts gX4_turnDown_X4_isCard rfl rfl rfl (by decide +kernel) ⟨(Nat.le_of_ble_eq_true rfl), (Nat.le_of_ble_eq_true rfl)⟩) (k_pre hP hK hD hT (k := 0) (by decide) mF_0 rfl) rfl rfl hl.1 rfl (lv_room (Nat.le_of_ble_eq_true rfl)) dX4_turnDown_10 ⟨Nat.zero_le _, Nat.zero_le _⟩) ?_
  refine r_topi (show bI (cardB n (nI d)) = bI true from congrArg bI (cardB_ok hd hn)) ?_
  refine r_ifeqB (b := true) (tgt := 20) hx hb dX4_turnDown_13 (by decide) (fun h => absurd h (by decide)) (fun _ => ?_)
  refine lv_iconst (v := nI 1) hx hb dX4_turnDown_16 (by decide) ?_
  refine lv_goto (tgt := 21) hx hb dX4_turnDown_17 (by decide) ?_
  refine lv_istore (lv' := [(4, .int (nI 1)), (0, .ref (ad 0)), (1, .int (nI c)), (2, .int (nI d)), (3, .int (bI false))]) hx hb dX4_turnDown_21 hl (by decide) rfl (fun ls hl => ?_)
  refine lv_aload_n hx hb dX4_turnDown_23 rfl (lv_at hl 1 rfl) ?_
  refine lv_iload hx hb dX4_turnDown_24 (lv_at hl 0 rfl) ?_
  refine r_ifneN (a := 1) (tgt := 33) hx hb (by omega) dX4_turnDown_26 (by decide) (fun _ => ?_) (fun h => absurd h (by omega))
  refine lv_iload_n hx hb dX4_turnDown_33 rfl (lv_at hl 2 rfl) ?_
  refine lv_iload_n hx hb dX4_turnDown_34 rfl (lv_at hl 3 rfl) ?_
  refine r_cneN (a := c) (b := d) (tgt := 42) hx hb (by omega) (by omega) dX4_turnDown_35 (by decide) (fun _ => ?_) (fun h => absurd h (by omega))
  refine lv_aload_n hx hb dX4_turnDown_42 rfl (lv_at hl 1 rfl) ?_
  refine lv_iload_n hx hb dX4_turnDown_43 rfl (lv_at hl 2 rfl) ?_
  refine lv_iload_n hx hb dX4_turnDown_44 rfl (lv_at hl 3 rfl) ?_
  refine k_Ri (va_runV (As := [.int (nI c), .int (nI d)]) (rest := [.ref (ad 0)]) hF (c_X4_isSuggested l D cI cA ad th n y c d g hc hd hn hg) (cwV 2 hts gX4_turnDown_X4_isSuggested rfl rfl rfl (by decide +kernel) ⟨(Nat.le_of_ble_eq_true rfl), (Nat.le_of_ble_eq_true rfl)⟩) (k_pre hP hK hD hT (k := 0) (by decide) mF_0 rfl) rfl rfl hl.1 rfl (lv_room (Nat.le_of_ble_eq_true rfl)) dX4_turnDown_45 ⟨Nat.zero_le _, Nat.zero_le _⟩) ?_
  refine r_topi (show bI (msug y g c d) = bI true from congrArg bI (hsu)) ?_
  refine r_ifneB (b := true) (tgt := 55) hx hb dX4_turnDown_48 (by decide) (fun _ => ?_) (fun h => absurd h (by decide))
  refine lv_iconst (v := nI 0) hx hb dX4_turnDown_55 (by decide) ?_
  refine k_Wi (va_runV (As := [.int (nI 0)]) (rest := []) hF (c_X4_isFine_0 l D cI cA ad th n y) (cwV 1 hts gX4_turnDown_X4_isFine rfl rfl rfl (by decide +kernel) ⟨(Nat.le_of_ble_eq_true rfl), (Nat.le_of_ble_eq_true rfl)⟩) (k_pre hP hK hD hT (k := 0) (by decide) mF_0 rfl) rfl rfl hl.1 rfl (lv_room (Nat.le_of_ble_eq_true rfl)) dX4_turnDown_56 ⟨Nat.zero_le _, Nat.zero_le _⟩) hD hS (fun H locs hP hS => ?_)
  refine r_ifneB (b := true) (tgt := 64) hx hb dX4_turnDown_59 (by decide) (fun _ => ?_) (fun h => absurd h (by decide))
  refine lv_aload_n hx hb dX4_turnDown_64 rfl (lv_at hl 1 rfl) ?_
  refine r_get (C := RX4) (T := TX4) (M := 9) (index := 22) (fd := "good") (fo := "[I") hx hb hts (by decide +kernel) hown hK hP 0 (by decide) mF_0 rfl 5 (by decide) rfl (by decide +kernel) rfl dX4_turnDown_65 ?_
  refine lv_iload_n hx hb dX4_turnDown_68 rfl (lv_at hl 2 rfl) ?_
  refine lv_dup2_11 hx hb dX4_turnDown_69 rfl rfl ?_
  refine r_iald hx hb hK hP 5 0 (by omega) (mF_a 5 (by omega)) rfl (i := c) (by omega) (by decide) dX4_turnDown_70 ?_
  refine lv_iload_n hx hb dX4_turnDown_71 rfl (lv_at hl 4 rfl) ?_
  refine r_ifeqB (b := false) (tgt := 81) hx hb dX4_turnDown_72 (by decide) (fun _ => ?_) (fun h => absurd h (by decide))
  refine lv_iconst (v := nI 0) hx hb dX4_turnDown_81 (by decide) ?_
  refine lv_ior hx hb dX4_turnDown_82 ?_
  refine r_iast (f' := mF cI ad (nI 0) n (up2 y 5 c ((y 5 c) ||| (nI 0)))) hx hb hK hP hD hS 5 0 (by omega) (mF_a 5 (by omega)) rfl (i := c) (by omega) (by decide) (mF_up (mF_a 5 (by omega)) (by decide)) dX4_turnDown_83 (fun H locs hP hS => ?_)
  refine lv_aload_n hx hb dX4_turnDown_84 rfl (lv_at hl 1 rfl) ?_
  refine r_get (C := RX4) (T := TX4) (M := 9) (index := 22) (fd := "good") (fo := "[I") hx hb hts (by decide +kernel) hown hK hP 0 (by decide) mF_0 rfl 5 (by decide) rfl (by decide +kernel) rfl dX4_turnDown_85 ?_
  refine lv_iload_n hx hb dX4_turnDown_88 rfl (lv_at hl 3 rfl) ?_
  refine lv_dup2_11 hx hb dX4_turnDown_89 rfl rfl ?_
  refine r_iald hx hb hK hP 5 0 (by omega) (mF_a 5 (by omega)) rfl (i := d) (by omega) (by decide) dX4_turnDown_90 ?_
  refine lv_iload_n hx hb dX4_turnDown_91 rfl (lv_at hl 4 rfl) ?_
  refine r_ifeqB (b := false) (tgt := 101) hx hb dX4_turnDown_92 (by decide) (fun _ => ?_) (fun h => absurd h (by decide))
  refine lv_iconst (v := nI 0) hx hb dX4_turnDown_101 (by decide) ?_
  refine lv_ior hx hb dX4_turnDown_102 ?_
  refine r_iast (f' := mF cI ad (nI 0) n (up2 (up2 y 5 c ((y 5 c) ||| (nI 0))) 5 d (((up2 y 5 c ((y 5 c) ||| (nI 0))) 5 d) ||| (nI 0)))) hx hb hK hP hD hS 5 0 (by omega) (mF_a 5 (by omega)) rfl (i := d) (by omega) (by decide) (mF_up (mF_a 5 (by omega)) (by decide)) dX4_turnDown_103 (fun H locs hP hS => ?_)
  refine lv_aload_n hx hb dX4_turnDown_104 rfl (lv_at hl 1 rfl) ?_
  refine r_get (C := RX4) (T := TX4) (M := 9) (index := 25) (fd := "forNow") (fo := "[I") hx hb hts (by decide +kernel) hown hK hP 0 (by decide) mF_0 rfl 6 (by decide) rfl (by decide +kernel) rfl dX4_turnDown_105 ?_
  refine lv_iload_n hx hb dX4_turnDown_108 rfl (lv_at hl 2 rfl) ?_
  refine lv_dup2_11 hx hb dX4_turnDown_109 rfl rfl ?_
  refine r_iald hx hb hK hP 6 0 (by omega) (mF_a 6 (by omega)) rfl (i := c) (by omega) (by decide) dX4_turnDown_110 ?_
  refine lv_iload_n hx hb dX4_turnDown_111 rfl (lv_at hl 4 rfl) ?_
  refine r_ifeqB (b := false) (tgt := 119) hx hb dX4_turnDown_112 (by decide) (fun _ => ?_) (fun h => absurd h (by decide))
  refine lv_iconst (v := nI 1) hx hb dX4_turnDown_119 (by decide) ?_
  refine lv_iload_n hx hb dX4_turnDown_120 rfl (lv_at hl 3 rfl) ?_
  refine r_bit hx hb dX4_turnDown_121 ?_
  refine lv_ior hx hb dX4_turnDown_122 ?_
  refine r_iast (f' := mF cI ad (nI 0) n (up2 (up2 (up2 y 5 c ((y 5 c) ||| (nI 0))) 5 d (((up2 y 5 c ((y 5 c) ||| (nI 0))) 5 d) ||| (nI 0))) 6 c (((up2 (up2 y 5 c ((y 5 c) ||| (nI 0))) 5 d (((up2 y 5 c ((y 5 c) ||| (nI 0))) 5 d) ||| (nI 0))) 6 c) ||| (bit d)))) hx hb hK hP hD hS 6 0 (by omega) (mF_a 6 (by omega)) rfl (i := c) (by omega) (by decide) (mF_up (mF_a 6 (by omega)) (by decide)) dX4_turnDown_123 (fun H locs hP hS => ?_)
  refine lv_aload_n hx hb dX4_turnDown_124 rfl (lv_at hl 1 rfl) ?_
  refine r_get (C := RX4) (T := TX4) (M := 9) (index := 25) (fd := "forNow") (fo := "[I") hx hb hts (by decide +kernel) hown hK hP 0 (by decide) mF_0 rfl 6 (by decide) rfl (by decide +kernel) rfl dX4_turnDown_125 ?_
  refine lv_iload_n hx hb dX4_turnDown_128 rfl (lv_at hl 3 rfl) ?_
  refine lv_dup2_11 hx hb dX4_turnDown_129 rfl rfl ?_
  refine r_iald hx hb hK hP 6 0 (by omega) (mF_a 6 (by omega)) rfl (i := d) (by omega) (by decide) dX4_turnDown_130 ?_
  refine lv_iload_n hx hb dX4_turnDown_131 rfl (lv_at hl 4 rfl) ?_
  refine r_ifeqB (b := false) (tgt := 139) hx hb dX4_turnDown_132 (by decide) (fun _ => ?_) (fun h => absurd h (by decide))
  refine lv_iconst (v := nI 1) hx hb dX4_turnDown_139 (by decide) ?_
  refine lv_iload_n hx hb dX4_turnDown_140 rfl (lv_at hl 2 rfl) ?_
  refine r_bit hx hb dX4_turnDown_141 ?_
  refine lv_ior hx hb dX4_turnDown_142 ?_
  refine r_iast (f' := mF cI ad (nI 0) n (up2 (up2 (up2 (up2 y 5 c ((y 5 c) ||| (nI 0))) 5 d (((up2 y 5 c ((y 5 c) ||| (nI 0))) 5 d) ||| (nI 0))) 6 c (((up2 (up2 y 5 c ((y 5 c) ||| (nI 0))) 5 d (((up2 y 5 c ((y 5 c) ||| (nI 0))) 5 d) ||| (nI 0))) 6 c) ||| (bit d))) 6 d (((up2 (up2 (up2 y 5 c ((y 5 c) ||| (nI 0))) 5 d (((up2 y 5 c ((y 5 c) ||| (nI 0))) 5 d) ||| (nI 0))) 6 c (((up2 (up2 y 5 c ((y 5 c) ||| (nI 0))) 5 d (((up2 y 5 c ((y 5 c) ||| (nI 0))) 5 d) ||| (nI 0))) 6 c) ||| (bit d))) 6 d) ||| (bit c)))) hx hb hK hP hD hS 6 0 (by omega) (mF_a 6 (by omega)) rfl (i := d) (by omega) (by decide) (mF_up (mF_a 6 (by omega)) (by decide)) dX4_turnDown_143 (fun H locs hP hS => ?_)
  refine lv_aload_n hx hb dX4_turnDown_144 rfl (lv_at hl 1 rfl) ?_
  refine k_Wi (va_runV (As := []) (rest := []) hF (c_X4_finds l D cI cA ad (nI 0) n (up2 (up2 (up2 (up2 y 5 c ((y 5 c) ||| (nI 0))) 5 d (((up2 y 5 c ((y 5 c) ||| (nI 0))) 5 d) ||| (nI 0))) 6 c (((up2 (up2 y 5 c ((y 5 c) ||| (nI 0))) 5 d (((up2 y 5 c ((y 5 c) ||| (nI 0))) 5 d) ||| (nI 0))) 6 c) ||| (bit d))) 6 d (((up2 (up2 (up2 y 5 c ((y 5 c) ||| (nI 0))) 5 d (((up2 y 5 c ((y 5 c) ||| (nI 0))) 5 d) ||| (nI 0))) 6 c (((up2 (up2 y 5 c ((y 5 c) ||| (nI 0))) 5 d (((up2 y 5 c ((y 5 c) ||| (nI 0))) 5 d) ||| (nI 0))) 6 c) ||| (bit d))) 6 d) ||| (bit c))) g hn (fun i hi => (congrArg (fun L => isGrp L n i (g i)) (tdG_4 (y := y) (c := c) (d := d) (s1 := nI 0) (s2 := nI 0) (t1 := bit d) (t2 := bit c))).mpr (hg i hi))) (cwV 0 hts gX4_turnDown_X4_finds rfl rfl rfl (by decide +kernel) ⟨(Nat.le_of_ble_eq_true rfl), (Nat.le_of_ble_eq_true rfl)⟩) (k_pre hP hK hD hT (k := 0) (by decide) mF_0 rfl) rfl rfl hl.1 rfl (lv_room (Nat.le_of_ble_eq_true rfl)) dX4_turnDown_145 ⟨Nat.zero_le _, Nat.zero_le _⟩) hD hS (fun H locs hP hS => ?_)
  exact hret _ _ _ _ _ _ hP hS dX4_turnDown_148 (rfl) (rfl)
set_option maxHeartbeats 4000000 in
set_option maxRecDepth 100000 in
theorem m_turnDown_1 (l : Launch) (D : va_G) (cI : ClassId) (cA : ClassId) (ad : Nat → Nat) (th : Int32) (n : Nat) (y : Nat → Nat → Int32) (a : Int32) (b : Int32) (b9 : Bool) (hn : n ≤ 24) (hbad : (cardB n a && cardB n b) = false) : Met l yX4_turnDown wsX4_turnDown ({ frames := 2, cells := 0, slots := 0, locals := 43 }) (va_Pc [.ref (ad 0), .int a, .int b, .int (bI b9)] (mX D cI cA ad th n y)) (qW D ad (mF cI ad (nI 1) n y) 8 (some (.int (nI 0)))) 0 0 (wA ad 8) := by
  refine c_ofW (cc := cX4_turnDown) (maxL := 5) (ret := .int) (by decide) rfl rfl (Nat.le_of_ble_eq_true rfl) ?_
  intro p e s m av below meth cd Q hx hb hF hP hK hD hT hret ls hl
  have hown : s.vm.findClass RX4 = some m.cls := hF.2.2.2.1
  have hF : CallFix p m cd cX4_turnDown 5 s av wsX4_turnDown RX4 := hF
  have hts := hF.2.2.2.2
  have hl : lv_has ls 5 [(0, .ref (ad 0)), (1, .int a), (2, .int b), (3, .int (bI b9))] := hl
  obtain ⟨H, eH⟩ : ∃ H9 : Heap, H9 = s.heap := ⟨_, rfl⟩
  obtain ⟨locs, eL⟩ : ∃ L9 : List Loc, L9 = [] := ⟨_, rfl⟩
  have hS : sS (wA ad 8) s.heap H locs := by rw [eH, eL]; exact sS.rf
  rw [← eH] at hP
  suffices hgo : W p l e ({ frames := 2, cells := 0, slots := 0, locals := 43 }) s m av below meth cd H locs 0 0 Q (F0 m 0 ls []) by rw [eH, eL] at hgo; exact hgo
  clear eH eL
  refine lv_aload_n hx hb dX4_turnDown_0 rfl (lv_at hl 0 rfl) ?_
  refine lv_iload_n hx hb dX4_turnDown_1 rfl (lv_at hl 1 rfl) ?_
  refine k_Ri (va_runV (As := [.int a]) (rest := []) hF (c_X4_isCard l D cI cA ad th n y a hn) (cwV 1 hts gX4_turnDown_X4_isCard rfl rfl rfl (by decide +kernel) ⟨(Nat.le_of_ble_eq_true rfl), (Nat.le_of_ble_eq_true rfl)⟩) (k_pre hP hK hD hT (k := 0) (by decide) mF_0 rfl) rfl rfl hl.1 rfl (lv_room (Nat.le_of_ble_eq_true rfl)) dX4_turnDown_2 ⟨Nat.zero_le _, Nat.zero_le _⟩) ?_
  have hJ21 : ∀ (H : Heap) (locs : List Loc), va_P D vwCl (wl ad (mF cI ad th n y) 8) H → sS (wA ad 8) s.heap H locs → ∀ ls : Array Slot, lv_has ls 5 [(0, .ref (ad 0)), (1, .int a), (2, .int b), (3, .int (bI b9))] → W p l e ({ frames := 2, cells := 0, slots := 0, locals := 43 }) s m av below meth cd H locs 0 0 Q (F0 m 21 ls [.int (bI (cardB n a && cardB n b))]) := by
    intro H locs hP hS ls hl
    refine lv_istore (lv' := [(4, .int (bI (cardB n a && cardB n b))), (0, .ref (ad 0)), (1, .int a), (2, .int b), (3, .int (bI b9))]) hx hb dX4_turnDown_21 hl (by decide) rfl (fun ls hl => ?_)
    refine lv_aload_n hx hb dX4_turnDown_23 rfl (lv_at hl 1 rfl) ?_
    refine lv_iload hx hb dX4_turnDown_24 (lv_at hl 0 rfl) ?_
    refine r_ifneB (b := cardB n a && cardB n b) (tgt := 33) hx hb dX4_turnDown_26 (by decide) (fun h => absurd (h.symm.trans hbad) (by decide)) (fun _ => ?_)
    refine lv_iconst (v := nI 1) hx hb dX4_turnDown_29 (by decide) ?_
    refine lv_goto (tgt := 56) hx hb dX4_turnDown_30 (by decide) ?_
    refine k_Wi (va_runV (As := [.int (nI 1)]) (rest := []) hF (c_X4_isFine_1 l D cI cA ad th n y) (cwV 1 hts gX4_turnDown_X4_isFine rfl rfl rfl (by decide +kernel) ⟨(Nat.le_of_ble_eq_true rfl), (Nat.le_of_ble_eq_true rfl)⟩) (k_pre hP hK hD hT (k := 0) (by decide) mF_0 rfl) rfl rfl hl.1 rfl (lv_room (Nat.le_of_ble_eq_true rfl)) dX4_turnDown_56 ⟨Nat.zero_le _, Nat.zero_le _⟩) hD hS (fun H locs hP hS => ?_)
    refine r_ifneB (b := false) (tgt := 64) hx hb dX4_turnDown_59 (by decide) (fun h => absurd h (by decide)) (fun _ => ?_)
    refine lv_iconst (v := nI 0) hx hb dX4_turnDown_62 (by decide) ?_
    exact hret _ _ _ _ _ _ hP hS dX4_turnDown_63 (rfl) (rfl)
  refine r_ifeqB (b := cardB n a) (tgt := 20) hx hb dX4_turnDown_5 (by decide) (fun h5_3 => ?_) (fun h5_3 => ?_)
  · refine lv_iconst (v := nI 0) hx hb dX4_turnDown_20 (by decide) ?_
    refine r_topi (show (nI 0 : Int32) = bI (cardB n a && cardB n b) from by simp [bI, h5_3]) ?_
    exact hJ21 _ _ hP hS _ (lv_sub hl [0, 1, 2, 3] rfl)
  · refine lv_aload_n hx hb dX4_turnDown_8 rfl (lv_at hl 0 rfl) ?_
    refine lv_iload_n hx hb dX4_turnDown_9 rfl (lv_at hl 2 rfl) ?_
    refine k_Ri (va_runV (As := [.int b]) (rest := []) hF (c_X4_isCard l D cI cA ad th n y b hn) (cwV 1 hts gX4_turnDown_X4_isCard rfl rfl rfl (by decide +kernel) ⟨(Nat.le_of_ble_eq_true rfl), (Nat.le_of_ble_eq_true rfl)⟩) (k_pre hP hK hD hT (k := 0) (by decide) mF_0 rfl) rfl rfl hl.1 rfl (lv_room (Nat.le_of_ble_eq_true rfl)) dX4_turnDown_10 ⟨Nat.zero_le _, Nat.zero_le _⟩) ?_
    refine r_ifeqB (b := cardB n b) (tgt := 20) hx hb dX4_turnDown_13 (by decide) (fun h13_4 => ?_) (fun h13_4 => ?_)
    · refine lv_iconst (v := nI 0) hx hb dX4_turnDown_20 (by decide) ?_
      refine r_topi (show (nI 0 : Int32) = bI (cardB n a && cardB n b) from by simp [bI, h5_3, h13_4]) ?_
      exact hJ21 _ _ hP hS _ (lv_sub hl [0, 1, 2, 3] rfl)
    · refine lv_iconst (v := nI 1) hx hb dX4_turnDown_16 (by decide) ?_
      refine lv_goto (tgt := 21) hx hb dX4_turnDown_17 (by decide) ?_
      refine r_topi (show (nI 1 : Int32) = bI (cardB n a && cardB n b) from by simp [bI, h5_3, h13_4]) ?_
      exact hJ21 _ _ hP hS _ (lv_sub hl [0, 1, 2, 3] rfl)
set_option maxHeartbeats 4000000 in
set_option maxRecDepth 100000 in
theorem m_turnDown_2 (l : Launch) (D : va_G) (cI : ClassId) (cA : ClassId) (ad : Nat → Nat) (th : Int32) (n : Nat) (y : Nat → Nat → Int32) (c : Nat) (b9 : Bool) (hc : c < n) (hn : n ≤ 24) : Met l yX4_turnDown wsX4_turnDown ({ frames := 2, cells := 0, slots := 0, locals := 43 }) (va_Pc [.ref (ad 0), .int (nI c), .int (nI c), .int (bI b9)] (mX D cI cA ad th n y)) (qW D ad (mF cI ad (nI 2) n y) 8 (some (.int (nI 0)))) 0 0 (wA ad 8) := by
  refine c_ofW (cc := cX4_turnDown) (maxL := 5) (ret := .int) (by decide) rfl rfl (Nat.le_of_ble_eq_true rfl) ?_
  intro p e s m av below meth cd Q hx hb hF hP hK hD hT hret ls hl
  have hown : s.vm.findClass RX4 = some m.cls := hF.2.2.2.1
  have hF : CallFix p m cd cX4_turnDown 5 s av wsX4_turnDown RX4 := hF
  have hts := hF.2.2.2.2
  have hl : lv_has ls 5 [(0, .ref (ad 0)), (1, .int (nI c)), (2, .int (nI c)), (3, .int (bI b9))] := hl
  obtain ⟨H, eH⟩ : ∃ H9 : Heap, H9 = s.heap := ⟨_, rfl⟩
  obtain ⟨locs, eL⟩ : ∃ L9 : List Loc, L9 = [] := ⟨_, rfl⟩
  have hS : sS (wA ad 8) s.heap H locs := by rw [eH, eL]; exact sS.rf
  rw [← eH] at hP
  suffices hgo : W p l e ({ frames := 2, cells := 0, slots := 0, locals := 43 }) s m av below meth cd H locs 0 0 Q (F0 m 0 ls []) by rw [eH, eL] at hgo; exact hgo
  clear eH eL
  refine lv_aload_n hx hb dX4_turnDown_0 rfl (lv_at hl 0 rfl) ?_
  refine lv_iload_n hx hb dX4_turnDown_1 rfl (lv_at hl 1 rfl) ?_
  refine k_Ri (va_runV (As := [.int (nI c)]) (rest := []) hF (c_X4_isCard l D cI cA ad th n y (nI c) hn) (cwV 1 hts gX4_turnDown_X4_isCard rfl rfl rfl (by decide +kernel) ⟨(Nat.le_of_ble_eq_true rfl), (Nat.le_of_ble_eq_true rfl)⟩) (k_pre hP hK hD hT (k := 0) (by decide) mF_0 rfl) rfl rfl hl.1 rfl (lv_room (Nat.le_of_ble_eq_true rfl)) dX4_turnDown_2 ⟨Nat.zero_le _, Nat.zero_le _⟩) ?_
  refine r_topi (show bI (cardB n (nI c)) = bI true from congrArg bI (cardB_ok hc hn)) ?_
  refine r_ifeqB (b := true) (tgt := 20) hx hb dX4_turnDown_5 (by decide) (fun h => absurd h (by decide)) (fun _ => ?_)
  refine lv_aload_n hx hb dX4_turnDown_8 rfl (lv_at hl 0 rfl) ?_
  refine lv_iload_n hx hb dX4_turnDown_9 rfl (lv_at hl 2 rfl) ?_
  refine k_Ri (va_runV (As := [.int (nI c)]) (rest := []) hF (c_X4_isCard l D cI cA ad th n y (nI c) hn) (cwV 1 hts gX4_turnDown_X4_isCard rfl rfl rfl (by decide +kernel) ⟨(Nat.le_of_ble_eq_true rfl), (Nat.le_of_ble_eq_true rfl)⟩) (k_pre hP hK hD hT (k := 0) (by decide) mF_0 rfl) rfl rfl hl.1 rfl (lv_room (Nat.le_of_ble_eq_true rfl)) dX4_turnDown_10 ⟨Nat.zero_le _, Nat.zero_le _⟩) ?_
  refine r_topi (show bI (cardB n (nI c)) = bI true from congrArg bI (cardB_ok hc hn)) ?_
  refine r_ifeqB (b := true) (tgt := 20) hx hb dX4_turnDown_13 (by decide) (fun h => absurd h (by decide)) (fun _ => ?_)
  refine lv_iconst (v := nI 1) hx hb dX4_turnDown_16 (by decide) ?_
  refine lv_goto (tgt := 21) hx hb dX4_turnDown_17 (by decide) ?_
  refine lv_istore (lv' := [(4, .int (nI 1)), (0, .ref (ad 0)), (1, .int (nI c)), (2, .int (nI c)), (3, .int (bI b9))]) hx hb dX4_turnDown_21 hl (by decide) rfl (fun ls hl => ?_)
  refine lv_aload_n hx hb dX4_turnDown_23 rfl (lv_at hl 1 rfl) ?_
  refine lv_iload hx hb dX4_turnDown_24 (lv_at hl 0 rfl) ?_
  refine r_ifneN (a := 1) (tgt := 33) hx hb (by omega) dX4_turnDown_26 (by decide) (fun _ => ?_) (fun h => absurd h (by omega))
  refine lv_iload_n hx hb dX4_turnDown_33 rfl (lv_at hl 2 rfl) ?_
  refine lv_iload_n hx hb dX4_turnDown_34 rfl (lv_at hl 3 rfl) ?_
  refine r_cneN (a := c) (b := c) (tgt := 42) hx hb (by omega) (by omega) dX4_turnDown_35 (by decide) (fun h => absurd h (by omega)) (fun _ => ?_)
  refine lv_iconst (v := nI 2) hx hb dX4_turnDown_38 (by decide) ?_
  refine lv_goto (tgt := 56) hx hb dX4_turnDown_39 (by decide) ?_
  refine k_Wi (va_runV (As := [.int (nI 2)]) (rest := []) hF (c_X4_isFine_2 l D cI cA ad th n y) (cwV 1 hts gX4_turnDown_X4_isFine rfl rfl rfl (by decide +kernel) ⟨(Nat.le_of_ble_eq_true rfl), (Nat.le_of_ble_eq_true rfl)⟩) (k_pre hP hK hD hT (k := 0) (by decide) mF_0 rfl) rfl rfl hl.1 rfl (lv_room (Nat.le_of_ble_eq_true rfl)) dX4_turnDown_56 ⟨Nat.zero_le _, Nat.zero_le _⟩) hD hS (fun H locs hP hS => ?_)
  refine r_ifneB (b := false) (tgt := 64) hx hb dX4_turnDown_59 (by decide) (fun h => absurd h (by decide)) (fun _ => ?_)
  refine lv_iconst (v := nI 0) hx hb dX4_turnDown_62 (by decide) ?_
  exact hret _ _ _ _ _ _ hP hS dX4_turnDown_63 (rfl) (rfl)
set_option maxHeartbeats 4000000 in
set_option maxRecDepth 100000 in
theorem m_turnDown_3 (l : Launch) (D : va_G) (cI : ClassId) (cA : ClassId) (ad : Nat → Nat) (th : Int32) (n : Nat) (y : Nat → Nat → Int32) (c : Nat) (d : Nat) (b9 : Bool) (g : Nat → Int32) (hc : c < n) (hd : d < n) (hne : c ≠ d) (hn : n ≤ 24) (hg : ∀ i, i < n → isGrp (y 4) n i (g i)) (hsu : msug y g c d = false) : Met l yX4_turnDown wsX4_turnDown ({ frames := 4, cells := 0, slots := 0, locals := 90 }) (va_Pc [.ref (ad 0), .int (nI c), .int (nI d), .int (bI b9)] (mX D cI cA ad th n y)) (qW D ad (mF cI ad (nI 3) n y) 8 (some (.int (nI 0)))) 0 0 (wA ad 8) := by
  refine c_ofW (cc := cX4_turnDown) (maxL := 5) (ret := .int) (by decide) rfl rfl (Nat.le_of_ble_eq_true rfl) ?_
  intro p e s m av below meth cd Q hx hb hF hP hK hD hT hret ls hl
  have hown : s.vm.findClass RX4 = some m.cls := hF.2.2.2.1
  have hF : CallFix p m cd cX4_turnDown 5 s av wsX4_turnDown RX4 := hF
  have hts := hF.2.2.2.2
  have hl : lv_has ls 5 [(0, .ref (ad 0)), (1, .int (nI c)), (2, .int (nI d)), (3, .int (bI b9))] := hl
  obtain ⟨H, eH⟩ : ∃ H9 : Heap, H9 = s.heap := ⟨_, rfl⟩
  obtain ⟨locs, eL⟩ : ∃ L9 : List Loc, L9 = [] := ⟨_, rfl⟩
  have hS : sS (wA ad 8) s.heap H locs := by rw [eH, eL]; exact sS.rf
  rw [← eH] at hP
  suffices hgo : W p l e ({ frames := 4, cells := 0, slots := 0, locals := 90 }) s m av below meth cd H locs 0 0 Q (F0 m 0 ls []) by rw [eH, eL] at hgo; exact hgo
  clear eH eL
  refine lv_aload_n hx hb dX4_turnDown_0 rfl (lv_at hl 0 rfl) ?_
  refine lv_iload_n hx hb dX4_turnDown_1 rfl (lv_at hl 1 rfl) ?_
  refine k_Ri (va_runV (As := [.int (nI c)]) (rest := []) hF (c_X4_isCard l D cI cA ad th n y (nI c) hn) (cwV 1 hts gX4_turnDown_X4_isCard rfl rfl rfl (by decide +kernel) ⟨(Nat.le_of_ble_eq_true rfl), (Nat.le_of_ble_eq_true rfl)⟩) (k_pre hP hK hD hT (k := 0) (by decide) mF_0 rfl) rfl rfl hl.1 rfl (lv_room (Nat.le_of_ble_eq_true rfl)) dX4_turnDown_2 ⟨Nat.zero_le _, Nat.zero_le _⟩) ?_
  refine r_topi (show bI (cardB n (nI c)) = bI true from congrArg bI (cardB_ok hc hn)) ?_
  refine r_ifeqB (b := true) (tgt := 20) hx hb dX4_turnDown_5 (by decide) (fun h => absurd h (by decide)) (fun _ => ?_)
  refine lv_aload_n hx hb dX4_turnDown_8 rfl (lv_at hl 0 rfl) ?_
  refine lv_iload_n hx hb dX4_turnDown_9 rfl (lv_at hl 2 rfl) ?_
  refine k_Ri (va_runV (As := [.int (nI d)]) (rest := []) hF (c_X4_isCard l D cI cA ad th n y (nI d) hn) (cwV 1 hts gX4_turnDown_X4_isCard rfl rfl rfl (by decide +kernel) ⟨(Nat.le_of_ble_eq_true rfl), (Nat.le_of_ble_eq_true rfl)⟩) (k_pre hP hK hD hT (k := 0) (by decide) mF_0 rfl) rfl rfl hl.1 rfl (lv_room (Nat.le_of_ble_eq_true rfl)) dX4_turnDown_10 ⟨Nat.zero_le _, Nat.zero_le _⟩) ?_
  refine r_topi (show bI (cardB n (nI d)) = bI true from congrArg bI (cardB_ok hd hn)) ?_
  refine r_ifeqB (b := true) (tgt := 20) hx hb dX4_turnDown_13 (by decide) (fun h => absurd h (by decide)) (fun _ => ?_)
  refine lv_iconst (v := nI 1) hx hb dX4_turnDown_16 (by decide) ?_
  refine lv_goto (tgt := 21) hx hb dX4_turnDown_17 (by decide) ?_
  refine lv_istore (lv' := [(4, .int (nI 1)), (0, .ref (ad 0)), (1, .int (nI c)), (2, .int (nI d)), (3, .int (bI b9))]) hx hb dX4_turnDown_21 hl (by decide) rfl (fun ls hl => ?_)
  refine lv_aload_n hx hb dX4_turnDown_23 rfl (lv_at hl 1 rfl) ?_
  refine lv_iload hx hb dX4_turnDown_24 (lv_at hl 0 rfl) ?_
  refine r_ifneN (a := 1) (tgt := 33) hx hb (by omega) dX4_turnDown_26 (by decide) (fun _ => ?_) (fun h => absurd h (by omega))
  refine lv_iload_n hx hb dX4_turnDown_33 rfl (lv_at hl 2 rfl) ?_
  refine lv_iload_n hx hb dX4_turnDown_34 rfl (lv_at hl 3 rfl) ?_
  refine r_cneN (a := c) (b := d) (tgt := 42) hx hb (by omega) (by omega) dX4_turnDown_35 (by decide) (fun _ => ?_) (fun h => absurd h (by omega))
  refine lv_aload_n hx hb dX4_turnDown_42 rfl (lv_at hl 1 rfl) ?_
  refine lv_iload_n hx hb dX4_turnDown_43 rfl (lv_at hl 2 rfl) ?_
  refine lv_iload_n hx hb dX4_turnDown_44 rfl (lv_at hl 3 rfl) ?_
  refine k_Ri (va_runV (As := [.int (nI c), .int (nI d)]) (rest := [.ref (ad 0)]) hF (c_X4_isSuggested l D cI cA ad th n y c d g hc hd hn hg) (cwV 2 hts gX4_turnDown_X4_isSuggested rfl rfl rfl (by decide +kernel) ⟨(Nat.le_of_ble_eq_true rfl), (Nat.le_of_ble_eq_true rfl)⟩) (k_pre hP hK hD hT (k := 0) (by decide) mF_0 rfl) rfl rfl hl.1 rfl (lv_room (Nat.le_of_ble_eq_true rfl)) dX4_turnDown_45 ⟨Nat.zero_le _, Nat.zero_le _⟩) ?_
  refine r_topi (show bI (msug y g c d) = bI false from congrArg bI (hsu)) ?_
  refine r_ifneB (b := false) (tgt := 55) hx hb dX4_turnDown_48 (by decide) (fun h => absurd h (by decide)) (fun _ => ?_)
  refine lv_iconst (v := nI 3) hx hb dX4_turnDown_51 (by decide) ?_
  refine lv_goto (tgt := 56) hx hb dX4_turnDown_52 (by decide) ?_
  refine k_Wi (va_runV (As := [.int (nI 3)]) (rest := []) hF (c_X4_isFine_3 l D cI cA ad th n y) (cwV 1 hts gX4_turnDown_X4_isFine rfl rfl rfl (by decide +kernel) ⟨(Nat.le_of_ble_eq_true rfl), (Nat.le_of_ble_eq_true rfl)⟩) (k_pre hP hK hD hT (k := 0) (by decide) mF_0 rfl) rfl rfl hl.1 rfl (lv_room (Nat.le_of_ble_eq_true rfl)) dX4_turnDown_56 ⟨Nat.zero_le _, Nat.zero_le _⟩) hD hS (fun H locs hP hS => ?_)
  refine r_ifneB (b := false) (tgt := 64) hx hb dX4_turnDown_59 (by decide) (fun h => absurd h (by decide)) (fun _ => ?_)
  refine lv_iconst (v := nI 0) hx hb dX4_turnDown_62 (by decide) ?_
  exact hret _ _ _ _ _ _ hP hS dX4_turnDown_63 (rfl) (rfl)
