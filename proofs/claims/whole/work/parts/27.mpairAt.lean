set_option maxHeartbeats 4000000 in
set_option maxRecDepth 100000 in
theorem m_pairAt_0 (l : Launch) (D : va_G) (cI : ClassId) (cA : ClassId) (ad : Nat → Nat) (th : Int32) (n : Nat) (y : Nat → Nat → Int32) (q : Nat) (g : Nat → Int32) (hn : n ≤ 24) (hg : ∀ i, i < n → isGrp (y 4) n i (g i)) (hq : q < 2 ^ 30) (hin : inB (nI q) (nI 0) (mfC y g n - nI 1) = true) (hsel : ∀ k, k ≤ q → selO (selS (mfS y g n) n q k) n n ≠ 0) : Met l yX4_pairAt wsX4_pairAt ({ frames := 3, cells := 0, slots := 0, locals := 71 }) (va_Pc [.ref (ad 0), .int (nI q)] (mX D cI cA ad th n y)) (qW D ad (mF cI ad (nI 0) n (selS (mfS y g n) n q (q + 1))) 8 (some (.int (nI (100 * (((selO (selS (mfS y g n) n q q) n n - 1)) / 24) + (((selO (selS (mfS y g n) n q q) n n - 1)) % 24)))))) 0 0 (wA ad 8) := by
  refine c_ofW (cc := cX4_pairAt) (maxL := 7) (ret := .int) (by decide) rfl rfl (Nat.le_of_ble_eq_true rfl) ?_
  intro p e s m av below meth cd Q hx hb hF hP hK hD hT hret ls hl
  have hown : s.vm.findClass RX4 = some m.cls := hF.2.2.2.1
  have hF : CallFix p m cd cX4_pairAt 7 s av wsX4_pairAt RX4 := hF
  have hts := hF.2.2.2.2
  have hl : lv_has ls 7 [(0, .ref (ad 0)), (1, .int (nI q))] := hl
  obtain ⟨H, eH⟩ : ∃ H9 : Heap, H9 = s.heap := ⟨_, rfl⟩
  obtain ⟨locs, eL⟩ : ∃ L9 : List Loc, L9 = [] := ⟨_, rfl⟩
  have hS : sS (wA ad 8) s.heap H locs := by rw [eH, eL]; exact sS.rf
  rw [← eH] at hP
  suffices hgo : W p l e ({ frames := 3, cells := 0, slots := 0, locals := 71 }) s m av below meth cd H locs 0 0 Q (F0 m 0 ls []) by rw [eH, eL] at hgo; exact hgo
  clear eH eL
  refine lv_aload_n hx hb dX4_pairAt_0 rfl (lv_at hl 0 rfl) ?_
  refine lv_iload_n hx hb dX4_pairAt_1 rfl (lv_at hl 1 rfl) ?_
  refine lv_iconst (v := nI 0) hx hb dX4_pairAt_2 (by decide) ?_
  refine lv_aload_n hx hb dX4_pairAt_3 rfl (lv_at hl 0 rfl) ?_
  refine k_Wi (va_runV (As := []) (rest := [.int (nI 0), .int (nI q), .ref (ad 0)]) hF (c_X4_finds l D cI cA ad th n y g hn hg) (cwV 0 hts gX4_pairAt_X4_finds rfl rfl rfl (by decide +kernel) ⟨(Nat.le_of_ble_eq_true rfl), (Nat.le_of_ble_eq_true rfl)⟩) (k_pre hP hK hD hT (k := 0) (by decide) mF_0 rfl) rfl rfl hl.1 rfl (lv_room (Nat.le_of_ble_eq_true rfl)) dX4_pairAt_4 ⟨Nat.zero_le _, Nat.zero_le _⟩) hD hS (fun H locs hP hS => ?_)
  refine lv_iconst (v := nI 1) hx hb dX4_pairAt_7 (by decide) ?_
  refine lv_isub hx hb dX4_pairAt_8 ?_
  refine k_Ri (va_runS (As := [.int (nI q), .int (nI 0), .int ((mfC y g n) - (nI 1))]) (rest := [.ref (ad 0)]) hF (c_X4_isIn l (nI q) (nI 0) ((mfC y g n) - (nI 1))) (va_cwS 3 hts gX4_pairAt_X4_isIn rfl rfl rfl (by decide +kernel) ⟨(Nat.le_of_ble_eq_true rfl), (Nat.le_of_ble_eq_true rfl)⟩) k_preS rfl rfl hl.1 rfl (lv_room (Nat.le_of_ble_eq_true rfl)) dX4_pairAt_9 ⟨Nat.zero_le _, Nat.zero_le _⟩) ?_
  refine r_topi (show bI (inB (nI q) (nI 0) ((mfC y g n) - (nI 1))) = bI true from congrArg bI (hin)) ?_
  refine r_ifeqB (b := true) (tgt := 19) hx hb dX4_pairAt_12 (by decide) (fun h => absurd h (by decide)) (fun _ => ?_)
  refine lv_iconst (v := nI 0) hx hb dX4_pairAt_15 (by decide) ?_
  refine lv_goto (tgt := 20) hx hb dX4_pairAt_16 (by decide) ?_
  refine k_Wi (va_runV (As := [.int (nI 0)]) (rest := []) hF (c_X4_isFine_0 l D cI cA ad th n (mfS y g n)) (cwV 1 hts gX4_pairAt_X4_isFine rfl rfl rfl (by decide +kernel) ⟨(Nat.le_of_ble_eq_true rfl), (Nat.le_of_ble_eq_true rfl)⟩) (k_pre hP hK hD hT (k := 0) (by decide) mF_0 rfl) rfl rfl hl.1 rfl (lv_room (Nat.le_of_ble_eq_true rfl)) dX4_pairAt_20 ⟨Nat.zero_le _, Nat.zero_le _⟩) hD hS (fun H locs hP hS => ?_)
  refine r_ifneB (b := true) (tgt := 28) hx hb dX4_pairAt_23 (by decide) (fun _ => ?_) (fun h => absurd h (by decide))
  refine lv_iconst (v := nI 0) hx hb dX4_pairAt_28 (by decide) ?_
  refine lv_istore_n (lv' := [(2, .int (nI 0)), (0, .ref (ad 0)), (1, .int (nI q))]) hx hb dX4_pairAt_29 rfl hl (by decide) rfl (fun ls hl => ?_)
  refine lv_iconst (v := nI 0) hx hb dX4_pairAt_30 (by decide) ?_
  refine lv_istore_n (lv' := [(3, .int (nI 0)), (2, .int (nI 0)), (0, .ref (ad 0)), (1, .int (nI q))]) hx hb dX4_pairAt_31 rfl hl (by decide) rfl (fun ls hl => ?_)
  have hL32 : ∀ k : Nat, k ≤ q + 1 → ∀ (H : Heap) (locs : List Loc), va_P D vwCl (wl ad (mF cI ad (nI 0) n (selS (mfS y g n) n q k)) 8) H → sS (wA ad 8) s.heap H locs → ∀ ls : Array Slot, lv_has ls 7 [(0, .ref (ad 0)), (1, .int (nI q)), (2, .int (selF (mfS y g n) n q k)), (3, .int (nI k))] → W p l e ({ frames := 3, cells := 0, slots := 0, locals := 71 }) s m av below meth cd H locs 0 0 Q (F0 m 32 ls []) := by
    refine down (q + 1) ?_ ?_
    · intro H locs hP hS ls hl
      refine lv_iload_n hx hb dX4_pairAt_32 rfl (lv_at hl 3 rfl) ?_
      refine lv_iload_n hx hb dX4_pairAt_33 rfl (lv_at hl 1 rfl) ?_
      refine r_cgtN (a := q + 1) (b := q) (tgt := 153) hx hb (by omega) (by omega) dX4_pairAt_34 (by decide) (fun _ => ?_) (fun h => absurd h (by omega))
      have hle3 := selO_le (y := selS (mfS y g n) n q q) hn n (Nat.le_refl _)
      refine lv_bipush (v := nI 100) hx hb dX4_pairAt_153 (by decide) ?_
      refine lv_iload_n hx hb dX4_pairAt_155 rfl (lv_at hl 2 rfl) ?_
      refine r_topi (show selF (mfS y g n) n q (q + 1) = nI ((selO (selS (mfS y g n) n q q) n n - 1)) from fI_nz (hsel q (Nat.le_refl _))) ?_
      refine lv_bipush (v := nI 24) hx hb dX4_pairAt_156 (by decide) ?_
      refine r_divN (a := (selO (selS (mfS y g n) n q q) n n - 1)) (b := 24) hx hb dX4_pairAt_158 (by omega) (by decide) (by decide) ?_
      refine r_mulN (a := 100) (b := (((selO (selS (mfS y g n) n q q) n n - 1)) / 24)) (r := 100 * (((selO (selS (mfS y g n) n q q) n n - 1)) / 24)) hx hb dX4_pairAt_159 (by omega) ?_
      refine lv_iload_n hx hb dX4_pairAt_160 rfl (lv_at hl 2 rfl) ?_
      refine r_topi (show selF (mfS y g n) n q (q + 1) = nI ((selO (selS (mfS y g n) n q q) n n - 1)) from fI_nz (hsel q (Nat.le_refl _))) ?_
      refine lv_bipush (v := nI 24) hx hb dX4_pairAt_161 (by decide) ?_
      refine r_remN (a := (selO (selS (mfS y g n) n q q) n n - 1)) (b := 24) hx hb dX4_pairAt_163 (by omega) (by decide) (by decide) ?_
      refine r_addN (a := 100 * (((selO (selS (mfS y g n) n q q) n n - 1)) / 24)) (b := (((selO (selS (mfS y g n) n q q) n n - 1)) % 24)) (r := 100 * (((selO (selS (mfS y g n) n q q) n n - 1)) / 24) + (((selO (selS (mfS y g n) n q q) n n - 1)) % 24)) hx hb dX4_pairAt_164 (by omega) ?_
      exact hret _ _ _ _ _ _ hP hS dX4_pairAt_165 (rfl) (rfl)
    · intro k hi32 ih32 H locs hP hS ls hl
      refine lv_iload_n hx hb dX4_pairAt_32 rfl (lv_at hl 3 rfl) ?_
      refine lv_iload_n hx hb dX4_pairAt_33 rfl (lv_at hl 1 rfl) ?_
      refine r_cgtN (a := k) (b := q) (tgt := 153) hx hb (by omega) (by omega) dX4_pairAt_34 (by decide) (fun h => absurd h (by omega)) (fun _ => ?_)
      refine lv_iconst (v := (-1)) hx hb dX4_pairAt_37 (by decide) ?_
      refine lv_istore_n (lv' := [(2, .int ((-1))), (0, .ref (ad 0)), (1, .int (nI q)), (3, .int (nI k))]) hx hb dX4_pairAt_38 rfl hl (by decide) rfl (fun ls hl => ?_)
      refine lv_iconst (v := nI 0) hx hb dX4_pairAt_39 (by decide) ?_
      refine lv_istore (lv' := [(4, .int (nI 0)), (2, .int ((-1))), (0, .ref (ad 0)), (1, .int (nI q)), (3, .int (nI k))]) hx hb dX4_pairAt_40 hl (by decide) rfl (fun ls hl => ?_)
      have hL42 : ∀ c9 : Nat, c9 ≤ n → ∀ (H : Heap) (locs : List Loc), va_P D vwCl (wl ad (mF cI ad (nI 0) n (selS (mfS y g n) n q k)) 8) H → sS (wA ad 8) s.heap H locs → ∀ ls : Array Slot, lv_has ls 7 [(0, .ref (ad 0)), (1, .int (nI q)), (2, .int (fI (selO (selS (mfS y g n) n q k) n c9))), (3, .int (nI k)), (4, .int (nI c9))] → W p l e ({ frames := 3, cells := 0, slots := 0, locals := 71 }) s m av below meth cd H locs 0 0 Q (F0 m 42 ls []) := by
        refine down (n) ?_ ?_
        · intro H locs hP hS ls hl
          refine lv_iload hx hb dX4_pairAt_42 (lv_at hl 4 rfl) ?_
          refine lv_aload_n hx hb dX4_pairAt_44 rfl (lv_at hl 0 rfl) ?_
          refine r_get (C := RX4) (T := TX4) (M := 9) (index := 35) (fd := "cards") (fo := "I") hx hb hts (by decide +kernel) hown hK hP 0 (by decide) mF_0 rfl 7 (by decide) rfl (by decide +kernel) rfl dX4_pairAt_45 ?_
          refine r_cgeN (a := n) (b := n) (tgt := 126) hx hb (by omega) (by omega) dX4_pairAt_48 (by decide) (fun _ => ?_) (fun h => absurd h (by omega))
          have hle2 := selO_le (y := (selS (mfS y g n) n q k)) hn n (Nat.le_refl _)
          refine lv_aload_n hx hb dX4_pairAt_126 rfl (lv_at hl 0 rfl) ?_
          refine r_get (C := RX4) (T := TX4) (M := 9) (index := 28) (fd := "scores") (fo := "[I") hx hb hts (by decide +kernel) hown hK hP 0 (by decide) mF_0 rfl 8 (by decide) rfl (by decide +kernel) rfl dX4_pairAt_127 ?_
          refine lv_iload_n hx hb dX4_pairAt_130 rfl (lv_at hl 2 rfl) ?_
          refine r_topi (show fI (selO (selS (mfS y g n) n q k) n n) = nI ((selO (selS (mfS y g n) n q k) n n - 1)) from fI_nz (hsel k (by omega))) ?_
          refine lv_iload_n hx hb dX4_pairAt_131 rfl (lv_at hl 3 rfl) ?_
          refine lv_iload_n hx hb dX4_pairAt_132 rfl (lv_at hl 1 rfl) ?_
          refine r_cgeN (a := k) (b := q) (tgt := 140) hx hb (by omega) (by omega) dX4_pairAt_133 (by decide) (fun h133_6 => ?_) (fun h133_6 => ?_)
          · refine lv_aload_n hx hb dX4_pairAt_140 rfl (lv_at hl 0 rfl) ?_
            refine r_get (C := RX4) (T := TX4) (M := 9) (index := 28) (fd := "scores") (fo := "[I") hx hb hts (by decide +kernel) hown hK hP 0 (by decide) mF_0 rfl 8 (by decide) rfl (by decide +kernel) rfl dX4_pairAt_141 ?_
            refine lv_iload_n hx hb dX4_pairAt_144 rfl (lv_at hl 2 rfl) ?_
            refine r_topi (show fI (selO (selS (mfS y g n) n q k) n n) = nI ((selO (selS (mfS y g n) n q k) n n - 1)) from fI_nz (hsel k (by omega))) ?_
            refine r_iald hx hb hK hP 7 0 (by omega) mF_7 rfl (i := (selO (selS (mfS y g n) n q k) n n - 1)) (by omega) (by decide) dX4_pairAt_145 ?_
            refine r_iast (f' := mF cI ad (nI 0) n (up2 (selS (mfS y g n) n q k) 7 ((selO (selS (mfS y g n) n q k) n n - 1)) ((selS (mfS y g n) n q k) 7 ((selO (selS (mfS y g n) n q k) n n - 1))))) hx hb hK hP hD hS 7 0 (by omega) mF_7 rfl (i := (selO (selS (mfS y g n) n q k) n n - 1)) (by omega) (by decide) (mF_up mF_7 (by decide)) dX4_pairAt_146 (fun H locs hP hS => ?_)
            refine r_iincN (k := 3) (a := k) (d := 1) (r := k + 1) (lv' := [(3, .int (nI (k + 1))), (0, .ref (ad 0)), (1, .int (nI q)), (2, .int (fI (selO (selS (mfS y g n) n q k) n n))), (4, .int (nI n))]) hx hb dX4_pairAt_147 hl rfl (by omega) (by decide) rfl (fun ls hl => ?_)
            refine lv_goto (tgt := 32) hx hb dX4_pairAt_150 (by decide) ?_
            exact ih32 _ _ (by rw [show mF cI ad (nI 0) n (selS (mfS y g n) n q (k + 1)) = mF cI ad (nI 0) n (up2 (selS (mfS y g n) n q k) 7 ((selO (selS (mfS y g n) n q k) n n - 1)) ((selS (mfS y g n) n q k) 7 ((selO (selS (mfS y g n) n q k) n n - 1)))) from by first | rw [selS, if_pos (by assumption)] | rw [selS, if_neg (by omega)]]; exact hP) hS _ (lv_cast (lv_sub (l' := [(0, .ref (ad 0)), (1, .int (nI q)), (2, .int (fI (selO (selS (mfS y g n) n q k) n n))), (3, .int (nI (k + 1)))]) hl [1, 2, 3, 0] rfl) (by rw [show (selF (mfS y g n) n q (k + 1) : Int32) = fI (selO (selS (mfS y g n) n q k) n n) from rfl]))
          · refine lv_iconst (v := nI 0) hx hb dX4_pairAt_136 (by decide) ?_
            refine lv_goto (tgt := 146) hx hb dX4_pairAt_137 (by decide) ?_
            refine r_iast (f' := mF cI ad (nI 0) n (up2 (selS (mfS y g n) n q k) 7 ((selO (selS (mfS y g n) n q k) n n - 1)) (nI 0))) hx hb hK hP hD hS 7 0 (by omega) mF_7 rfl (i := (selO (selS (mfS y g n) n q k) n n - 1)) (by omega) (by decide) (mF_up mF_7 (by decide)) dX4_pairAt_146 (fun H locs hP hS => ?_)
            refine r_iincN (k := 3) (a := k) (d := 1) (r := k + 1) (lv' := [(3, .int (nI (k + 1))), (0, .ref (ad 0)), (1, .int (nI q)), (2, .int (fI (selO (selS (mfS y g n) n q k) n n))), (4, .int (nI n))]) hx hb dX4_pairAt_147 hl rfl (by omega) (by decide) rfl (fun ls hl => ?_)
            refine lv_goto (tgt := 32) hx hb dX4_pairAt_150 (by decide) ?_
            exact ih32 _ _ (by rw [show mF cI ad (nI 0) n (selS (mfS y g n) n q (k + 1)) = mF cI ad (nI 0) n (up2 (selS (mfS y g n) n q k) 7 ((selO (selS (mfS y g n) n q k) n n - 1)) (nI 0)) from by first | rw [selS, if_pos (by assumption)] | rw [selS, if_neg (by omega)]]; exact hP) hS _ (lv_cast (lv_sub (l' := [(0, .ref (ad 0)), (1, .int (nI q)), (2, .int (fI (selO (selS (mfS y g n) n q k) n n))), (3, .int (nI (k + 1)))]) hl [1, 2, 3, 0] rfl) (by rw [show (selF (mfS y g n) n q (k + 1) : Int32) = fI (selO (selS (mfS y g n) n q k) n n) from rfl]))
        · intro c9 hi42 ih42 H locs hP hS ls hl
          refine lv_iload hx hb dX4_pairAt_42 (lv_at hl 4 rfl) ?_
          refine lv_aload_n hx hb dX4_pairAt_44 rfl (lv_at hl 0 rfl) ?_
          refine r_get (C := RX4) (T := TX4) (M := 9) (index := 35) (fd := "cards") (fo := "I") hx hb hts (by decide +kernel) hown hK hP 0 (by decide) mF_0 rfl 7 (by decide) rfl (by decide +kernel) rfl dX4_pairAt_45 ?_
          refine r_cgeN (a := c9) (b := n) (tgt := 126) hx hb (by omega) (by omega) dX4_pairAt_48 (by decide) (fun h => absurd h (by omega)) (fun _ => ?_)
          obtain ⟨w, hw⟩ : ∃ w, n = c9 + 1 + w := ⟨n - (c9 + 1), by omega⟩
          refine lv_iload hx hb dX4_pairAt_51 (lv_at hl 4 rfl) ?_
          refine lv_iconst (v := nI 1) hx hb dX4_pairAt_53 (by decide) ?_
          refine r_addN (a := c9) (b := 1) (r := c9 + 1) hx hb dX4_pairAt_54 (by omega) ?_
          refine lv_istore (lv' := [(5, .int (nI (c9 + 1))), (0, .ref (ad 0)), (1, .int (nI q)), (2, .int (fI (selO (selS (mfS y g n) n q k) n c9))), (3, .int (nI k)), (4, .int (nI c9))]) hx hb dX4_pairAt_55 hl (by decide) rfl (fun ls hl => ?_)
          have hL57 : ∀ d9 : Nat, d9 ≤ w → ∀ (H : Heap) (locs : List Loc), va_P D vwCl (wl ad (mF cI ad (nI 0) n (selS (mfS y g n) n q k)) 8) H → sS (wA ad 8) s.heap H locs → ∀ ls : Array Slot, lv_has ls 7 [(0, .ref (ad 0)), (1, .int (nI q)), (2, .int (fI (selI (selS (mfS y g n) n q k) c9 (selO (selS (mfS y g n) n q k) n c9) d9))), (3, .int (nI k)), (4, .int (nI c9)), (5, .int (nI (d9 + c9 + 1)))] → W p l e ({ frames := 3, cells := 0, slots := 0, locals := 71 }) s m av below meth cd H locs 0 0 Q (F0 m 57 ls []) := by
            refine down (w) ?_ ?_
            · intro H locs hP hS ls hl
              refine lv_iload hx hb dX4_pairAt_57 (lv_at hl 5 rfl) ?_
              refine lv_aload_n hx hb dX4_pairAt_59 rfl (lv_at hl 0 rfl) ?_
              refine r_get (C := RX4) (T := TX4) (M := 9) (index := 35) (fd := "cards") (fo := "I") hx hb hts (by decide +kernel) hown hK hP 0 (by decide) mF_0 rfl 7 (by decide) rfl (by decide +kernel) rfl dX4_pairAt_60 ?_
              refine r_cgeN (a := w + c9 + 1) (b := n) (tgt := 120) hx hb (by omega) (by omega) dX4_pairAt_63 (by decide) (fun _ => ?_) (fun h => absurd h (by omega))
              refine r_iincN (k := 4) (a := c9) (d := 1) (r := c9 + 1) (lv' := [(4, .int (nI (c9 + 1))), (0, .ref (ad 0)), (1, .int (nI q)), (2, .int (fI (selI (selS (mfS y g n) n q k) c9 (selO (selS (mfS y g n) n q k) n c9) w))), (3, .int (nI k)), (5, .int (nI (w + c9 + 1)))]) hx hb dX4_pairAt_120 hl rfl (by omega) (by decide) rfl (fun ls hl => ?_)
              refine lv_goto (tgt := 42) hx hb dX4_pairAt_123 (by decide) ?_
              exact ih42 _ _ hP hS _ (lv_cast (lv_sub (l' := [(0, .ref (ad 0)), (1, .int (nI q)), (2, .int (fI (selI (selS (mfS y g n) n q k) c9 (selO (selS (mfS y g n) n q k) n c9) w))), (3, .int (nI k)), (4, .int (nI (c9 + 1)))]) hl [1, 2, 3, 4, 0] rfl) (by rw [show (fI (selO (selS (mfS y g n) n q k) n (c9 + 1)) : Int32) = fI (selI (selS (mfS y g n) n q k) c9 (selO (selS (mfS y g n) n q k) n c9) w) from by rw [selO_s hw]]))
            · intro d9 hi57 ih57 H locs hP hS ls hl
              refine lv_iload hx hb dX4_pairAt_57 (lv_at hl 5 rfl) ?_
              refine lv_aload_n hx hb dX4_pairAt_59 rfl (lv_at hl 0 rfl) ?_
              refine r_get (C := RX4) (T := TX4) (M := 9) (index := 35) (fd := "cards") (fo := "I") hx hb hts (by decide +kernel) hown hK hP 0 (by decide) mF_0 rfl 7 (by decide) rfl (by decide +kernel) rfl dX4_pairAt_60 ?_
              refine r_cgeN (a := d9 + c9 + 1) (b := n) (tgt := 120) hx hb (by omega) (by omega) dX4_pairAt_63 (by decide) (fun h => absurd h (by omega)) (fun _ => ?_)
              refine lv_bipush (v := nI 24) hx hb dX4_pairAt_66 (by decide) ?_
              refine lv_iload hx hb dX4_pairAt_68 (lv_at hl 4 rfl) ?_
              refine r_mulN (a := 24) (b := c9) (r := 24 * c9) hx hb dX4_pairAt_70 (by omega) ?_
              refine lv_iload hx hb dX4_pairAt_71 (lv_at hl 5 rfl) ?_
              refine r_addN (a := 24 * c9) (b := d9 + c9 + 1) (r := 25 * c9 + d9 + 1) hx hb dX4_pairAt_73 (by omega) ?_
              refine lv_istore (lv' := [(6, .int (nI (25 * c9 + d9 + 1))), (0, .ref (ad 0)), (1, .int (nI q)), (2, .int (fI (selI (selS (mfS y g n) n q k) c9 (selO (selS (mfS y g n) n q k) n c9) d9))), (3, .int (nI k)), (4, .int (nI c9)), (5, .int (nI (d9 + c9 + 1)))]) hx hb dX4_pairAt_74 hl (by decide) rfl (fun ls hl => ?_)
              have hle := selI_le (y := (selS (mfS y g n) n q k)) (c := c9) (selO_le (y := (selS (mfS y g n) n q k)) hn c9 (by omega)) d9 (by omega)
              refine lv_aload_n hx hb dX4_pairAt_76 rfl (lv_at hl 1 rfl) ?_
              refine r_get (C := RX4) (T := TX4) (M := 9) (index := 28) (fd := "scores") (fo := "[I") hx hb hts (by decide +kernel) hown hK hP 0 (by decide) mF_0 rfl 8 (by decide) rfl (by decide +kernel) rfl dX4_pairAt_77 ?_
              refine lv_iload hx hb dX4_pairAt_80 (lv_at hl 0 rfl) ?_
              refine r_iald hx hb hK hP 7 0 (by omega) mF_7 rfl (i := 25 * c9 + d9 + 1) (by omega) (by decide) dX4_pairAt_82 ?_
              refine lv_if_le (tgt := 112) hx hb dX4_pairAt_83 (by decide) (fun h83_10 => ?_) (fun h83_10 => ?_)
              · refine lv_iload_n hx hb dX4_pairAt_112 rfl (lv_at hl 3 rfl) ?_
                refine lv_istore_n (lv' := [(2, .int (fI (selI (selS (mfS y g n) n q k) c9 (selO (selS (mfS y g n) n q k) n c9) d9))), (6, .int (nI (25 * c9 + d9 + 1))), (0, .ref (ad 0)), (1, .int (nI q)), (3, .int (nI k)), (4, .int (nI c9)), (5, .int (nI (d9 + c9 + 1)))]) hx hb dX4_pairAt_113 rfl hl (by decide) rfl (fun ls hl => ?_)
                refine r_iincN (k := 6) (a := d9 + c9 + 1) (d := 1) (r := d9 + c9 + 2) (lv' := [(5, .int (nI (d9 + c9 + 2))), (2, .int (fI (selI (selS (mfS y g n) n q k) c9 (selO (selS (mfS y g n) n q k) n c9) d9))), (6, .int (nI (25 * c9 + d9 + 1))), (0, .ref (ad 0)), (1, .int (nI q)), (3, .int (nI k)), (4, .int (nI c9))]) hx hb dX4_pairAt_114 hl rfl (by omega) (by decide) rfl (fun ls hl => ?_)
                refine lv_goto (tgt := 57) hx hb dX4_pairAt_117 (by decide) ?_
                exact ih57 _ _ hP hS _ (lv_cast (lv_sub (l' := [(0, .ref (ad 0)), (1, .int (nI q)), (2, .int (fI (selI (selS (mfS y g n) n q k) c9 (selO (selS (mfS y g n) n q k) n c9) d9))), (3, .int (nI k)), (4, .int (nI c9)), (5, .int (nI (d9 + c9 + 2)))]) hl [3, 4, 1, 5, 6, 0] rfl) (by rw [show (fI (selI (selS (mfS y g n) n q k) c9 (selO (selS (mfS y g n) n q k) n c9) (d9 + 1)) : Int32) = fI (selI (selS (mfS y g n) n q k) c9 (selO (selS (mfS y g n) n q k) n c9) d9) from by first | rw [selI_a (by assumption)] | (rw [selI_b (by assumption) (fI_0 hle (by assumption))]; rfl) | (rw [selI_c (by assumption) (by assumption)]; rfl) | rw [selI_d (fI_z (by assumption)) (by assumption)], show (nI ((d9 + 1) + c9 + 1) : Int32) = nI (d9 + c9 + 2) from congrArg nI (by omega)]))
              · refine lv_iload_n hx hb dX4_pairAt_86 rfl (lv_at hl 3 rfl) ?_
                refine lv_iconst (v := (-1)) hx hb dX4_pairAt_87 (by decide) ?_
                refine lv_icmp_eq (tgt := 107) hx hb dX4_pairAt_88 (by decide) (fun h88_11 => ?_) (fun h88_11 => ?_)
                · refine lv_iload hx hb dX4_pairAt_107 (lv_at hl 0 rfl) ?_
                  refine lv_goto (tgt := 113) hx hb dX4_pairAt_109 (by decide) ?_
                  refine lv_istore_n (lv' := [(2, .int (nI (25 * c9 + d9 + 1))), (6, .int (nI (25 * c9 + d9 + 1))), (0, .ref (ad 0)), (1, .int (nI q)), (3, .int (nI k)), (4, .int (nI c9)), (5, .int (nI (d9 + c9 + 1)))]) hx hb dX4_pairAt_113 rfl hl (by decide) rfl (fun ls hl => ?_)
                  refine r_iincN (k := 6) (a := d9 + c9 + 1) (d := 1) (r := d9 + c9 + 2) (lv' := [(5, .int (nI (d9 + c9 + 2))), (2, .int (nI (25 * c9 + d9 + 1))), (6, .int (nI (25 * c9 + d9 + 1))), (0, .ref (ad 0)), (1, .int (nI q)), (3, .int (nI k)), (4, .int (nI c9))]) hx hb dX4_pairAt_114 hl rfl (by omega) (by decide) rfl (fun ls hl => ?_)
                  refine lv_goto (tgt := 57) hx hb dX4_pairAt_117 (by decide) ?_
                  exact ih57 _ _ hP hS _ (lv_cast (lv_sub (l' := [(0, .ref (ad 0)), (1, .int (nI q)), (2, .int (nI (25 * c9 + d9 + 1))), (3, .int (nI k)), (4, .int (nI c9)), (5, .int (nI (d9 + c9 + 2)))]) hl [3, 4, 1, 5, 6, 0] rfl) (by rw [show (fI (selI (selS (mfS y g n) n q k) c9 (selO (selS (mfS y g n) n q k) n c9) (d9 + 1)) : Int32) = nI (25 * c9 + d9 + 1) from by first | rw [selI_a (by assumption)] | (rw [selI_b (by assumption) (fI_0 hle (by assumption))]; rfl) | (rw [selI_c (by assumption) (by assumption)]; rfl) | rw [selI_d (fI_z (by assumption)) (by assumption)], show (nI ((d9 + 1) + c9 + 1) : Int32) = nI (d9 + c9 + 2) from congrArg nI (by omega)]))
                · refine lv_aload_n hx hb dX4_pairAt_91 rfl (lv_at hl 1 rfl) ?_
                  refine r_get (C := RX4) (T := TX4) (M := 9) (index := 28) (fd := "scores") (fo := "[I") hx hb hts (by decide +kernel) hown hK hP 0 (by decide) mF_0 rfl 8 (by decide) rfl (by decide +kernel) rfl dX4_pairAt_92 ?_
                  refine lv_iload hx hb dX4_pairAt_95 (lv_at hl 0 rfl) ?_
                  refine r_iald hx hb hK hP 7 0 (by omega) mF_7 rfl (i := 25 * c9 + d9 + 1) (by omega) (by decide) dX4_pairAt_97 ?_
                  refine lv_aload_n hx hb dX4_pairAt_98 rfl (lv_at hl 1 rfl) ?_
                  refine r_get (C := RX4) (T := TX4) (M := 9) (index := 28) (fd := "scores") (fo := "[I") hx hb hts (by decide +kernel) hown hK hP 0 (by decide) mF_0 rfl 8 (by decide) rfl (by decide +kernel) rfl dX4_pairAt_99 ?_
                  refine lv_iload_n hx hb dX4_pairAt_102 rfl (lv_at hl 3 rfl) ?_
                  refine r_topi (show fI (selI (selS (mfS y g n) n q k) c9 (selO (selS (mfS y g n) n q k) n c9) d9) = nI ((selI (selS (mfS y g n) n q k) c9 (selO (selS (mfS y g n) n q k) n c9) d9 - 1)) from fI_ne (by assumption)) ?_
                  refine r_iald hx hb hK hP 7 0 (by omega) mF_7 rfl (i := (selI (selS (mfS y g n) n q k) c9 (selO (selS (mfS y g n) n q k) n c9) d9 - 1)) (by omega) (by decide) dX4_pairAt_103 ?_
                  refine lv_icmp_le (tgt := 112) hx hb dX4_pairAt_104 (by decide) (fun h104_12 => ?_) (fun h104_12 => ?_)
                  · refine lv_iload_n hx hb dX4_pairAt_112 rfl (lv_at hl 3 rfl) ?_
                    refine lv_istore_n (lv' := [(2, .int (fI (selI (selS (mfS y g n) n q k) c9 (selO (selS (mfS y g n) n q k) n c9) d9))), (6, .int (nI (25 * c9 + d9 + 1))), (0, .ref (ad 0)), (1, .int (nI q)), (3, .int (nI k)), (4, .int (nI c9)), (5, .int (nI (d9 + c9 + 1)))]) hx hb dX4_pairAt_113 rfl hl (by decide) rfl (fun ls hl => ?_)
                    refine r_iincN (k := 6) (a := d9 + c9 + 1) (d := 1) (r := d9 + c9 + 2) (lv' := [(5, .int (nI (d9 + c9 + 2))), (2, .int (fI (selI (selS (mfS y g n) n q k) c9 (selO (selS (mfS y g n) n q k) n c9) d9))), (6, .int (nI (25 * c9 + d9 + 1))), (0, .ref (ad 0)), (1, .int (nI q)), (3, .int (nI k)), (4, .int (nI c9))]) hx hb dX4_pairAt_114 hl rfl (by omega) (by decide) rfl (fun ls hl => ?_)
                    refine lv_goto (tgt := 57) hx hb dX4_pairAt_117 (by decide) ?_
                    exact ih57 _ _ hP hS _ (lv_cast (lv_sub (l' := [(0, .ref (ad 0)), (1, .int (nI q)), (2, .int (fI (selI (selS (mfS y g n) n q k) c9 (selO (selS (mfS y g n) n q k) n c9) d9))), (3, .int (nI k)), (4, .int (nI c9)), (5, .int (nI (d9 + c9 + 2)))]) hl [3, 4, 1, 5, 6, 0] rfl) (by rw [show (fI (selI (selS (mfS y g n) n q k) c9 (selO (selS (mfS y g n) n q k) n c9) (d9 + 1)) : Int32) = fI (selI (selS (mfS y g n) n q k) c9 (selO (selS (mfS y g n) n q k) n c9) d9) from by first | rw [selI_a (by assumption)] | (rw [selI_b (by assumption) (fI_0 hle (by assumption))]; rfl) | (rw [selI_c (by assumption) (by assumption)]; rfl) | rw [selI_d (fI_z (by assumption)) (by assumption)], show (nI ((d9 + 1) + c9 + 1) : Int32) = nI (d9 + c9 + 2) from congrArg nI (by omega)]))
                  · refine lv_iload hx hb dX4_pairAt_107 (lv_at hl 0 rfl) ?_
                    refine lv_goto (tgt := 113) hx hb dX4_pairAt_109 (by decide) ?_
                    refine lv_istore_n (lv' := [(2, .int (nI (25 * c9 + d9 + 1))), (6, .int (nI (25 * c9 + d9 + 1))), (0, .ref (ad 0)), (1, .int (nI q)), (3, .int (nI k)), (4, .int (nI c9)), (5, .int (nI (d9 + c9 + 1)))]) hx hb dX4_pairAt_113 rfl hl (by decide) rfl (fun ls hl => ?_)
                    refine r_iincN (k := 6) (a := d9 + c9 + 1) (d := 1) (r := d9 + c9 + 2) (lv' := [(5, .int (nI (d9 + c9 + 2))), (2, .int (nI (25 * c9 + d9 + 1))), (6, .int (nI (25 * c9 + d9 + 1))), (0, .ref (ad 0)), (1, .int (nI q)), (3, .int (nI k)), (4, .int (nI c9))]) hx hb dX4_pairAt_114 hl rfl (by omega) (by decide) rfl (fun ls hl => ?_)
                    refine lv_goto (tgt := 57) hx hb dX4_pairAt_117 (by decide) ?_
                    exact ih57 _ _ hP hS _ (lv_cast (lv_sub (l' := [(0, .ref (ad 0)), (1, .int (nI q)), (2, .int (nI (25 * c9 + d9 + 1))), (3, .int (nI k)), (4, .int (nI c9)), (5, .int (nI (d9 + c9 + 2)))]) hl [3, 4, 1, 5, 6, 0] rfl) (by rw [show (fI (selI (selS (mfS y g n) n q k) c9 (selO (selS (mfS y g n) n q k) n c9) (d9 + 1)) : Int32) = nI (25 * c9 + d9 + 1) from by first | rw [selI_a (by assumption)] | (rw [selI_b (by assumption) (fI_0 hle (by assumption))]; rfl) | (rw [selI_c (by assumption) (by assumption)]; rfl) | rw [selI_d (fI_z (by assumption)) (by assumption)], show (nI ((d9 + 1) + c9 + 1) : Int32) = nI (d9 + c9 + 2) from congrArg nI (by omega)]))
          exact hL57 0 (Nat.zero_le _) _ _ hP hS _ (lv_cast (lv_sub (l' := [(0, .ref (ad 0)), (1, .int (nI q)), (2, .int (fI (selO (selS (mfS y g n) n q k) n c9))), (3, .int (nI k)), (4, .int (nI c9)), (5, .int (nI (c9 + 1)))]) hl [1, 2, 3, 4, 5, 0] rfl) (by rw [show (fI (selI (selS (mfS y g n) n q k) c9 (selO (selS (mfS y g n) n q k) n c9) 0) : Int32) = fI (selO (selS (mfS y g n) n q k) n c9) from rfl, show (nI (0 + c9 + 1) : Int32) = nI (c9 + 1) from congrArg nI (by omega)]))
      exact hL42 0 (Nat.zero_le _) _ _ hP hS _ (lv_cast (lv_sub (l' := [(0, .ref (ad 0)), (1, .int (nI q)), (2, .int ((-1))), (3, .int (nI k)), (4, .int (nI 0))]) hl [2, 3, 1, 4, 0] rfl) (by rw [show (fI (selO (selS (mfS y g n) n q k) n 0) : Int32) = (-1) from rfl]))
  exact hL32 0 (Nat.zero_le _) _ _ (by rw [show mF cI ad (nI 0) n (selS (mfS y g n) n q 0) = mF cI ad (nI 0) n ((mfS y g n)) from rfl]; exact hP) hS _ (lv_cast (lv_sub (l' := [(0, .ref (ad 0)), (1, .int (nI q)), (2, .int (nI 0)), (3, .int (nI 0))]) hl [2, 3, 1, 0] rfl) (by rw [show (selF (mfS y g n) n q 0 : Int32) = nI 0 from rfl]))
set_option maxHeartbeats 4000000 in
set_option maxRecDepth 100000 in
theorem m_pairAt_1 (l : Launch) (D : va_G) (cI : ClassId) (cA : ClassId) (ad : Nat → Nat) (th : Int32) (n : Nat) (y : Nat → Nat → Int32) (q : Int32) (g : Nat → Int32) (hn : n ≤ 24) (hg : ∀ i, i < n → isGrp (y 4) n i (g i)) (hin : inB q (nI 0) (mfC y g n - nI 1) = false) : Met l yX4_pairAt wsX4_pairAt ({ frames := 3, cells := 0, slots := 0, locals := 71 }) (va_Pc [.ref (ad 0), .int q] (mX D cI cA ad th n y)) (qW D ad (mF cI ad (nI 1) n (mfS y g n)) 8 (some (.int (nI 0)))) 0 0 (wA ad 8) := by
  refine c_ofW (cc := cX4_pairAt) (maxL := 7) (ret := .int) (by decide) rfl rfl (Nat.le_of_ble_eq_true rfl) ?_
  intro p e s m av below meth cd Q hx hb hF hP hK hD hT hret ls hl
  have hown : s.vm.findClass RX4 = some m.cls := hF.2.2.2.1
  have hF : CallFix p m cd cX4_pairAt 7 s av wsX4_pairAt RX4 := hF
  have hts := hF.2.2.2.2
  have hl : lv_has ls 7 [(0, .ref (ad 0)), (1, .int q)] := hl
  obtain ⟨H, eH⟩ : ∃ H9 : Heap, H9 = s.heap := ⟨_, rfl⟩
  obtain ⟨locs, eL⟩ : ∃ L9 : List Loc, L9 = [] := ⟨_, rfl⟩
  have hS : sS (wA ad 8) s.heap H locs := by rw [eH, eL]; exact sS.rf
  rw [← eH] at hP
  suffices hgo : W p l e ({ frames := 3, cells := 0, slots := 0, locals := 71 }) s m av below meth cd H locs 0 0 Q (F0 m 0 ls []) by rw [eH, eL] at hgo; exact hgo
  clear eH eL
  refine lv_aload_n hx hb dX4_pairAt_0 rfl (lv_at hl 0 rfl) ?_
  refine lv_iload_n hx hb dX4_pairAt_1 rfl (lv_at hl 1 rfl) ?_
  refine lv_iconst (v := nI 0) hx hb dX4_pairAt_2 (by decide) ?_
  refine lv_aload_n hx hb dX4_pairAt_3 rfl (lv_at hl 0 rfl) ?_
  refine k_Wi (va_runV (As := []) (rest := [.int (nI 0), .int q, .ref (ad 0)]) hF (c_X4_finds l D cI cA ad th n y g hn hg) (cwV 0 hts gX4_pairAt_X4_finds rfl rfl rfl (by decide +kernel) ⟨(Nat.le_of_ble_eq_true rfl), (Nat.le_of_ble_eq_true rfl)⟩) (k_pre hP hK hD hT (k := 0) (by decide) mF_0 rfl) rfl rfl hl.1 rfl (lv_room (Nat.le_of_ble_eq_true rfl)) dX4_pairAt_4 ⟨Nat.zero_le _, Nat.zero_le _⟩) hD hS (fun H locs hP hS => ?_)
  refine lv_iconst (v := nI 1) hx hb dX4_pairAt_7 (by decide) ?_
  refine lv_isub hx hb dX4_pairAt_8 ?_
  refine k_Ri (va_runS (As := [.int q, .int (nI 0), .int ((mfC y g n) - (nI 1))]) (rest := [.ref (ad 0)]) hF (c_X4_isIn l q (nI 0) ((mfC y g n) - (nI 1))) (va_cwS 3 hts gX4_pairAt_X4_isIn rfl rfl rfl (by decide +kernel) ⟨(Nat.le_of_ble_eq_true rfl), (Nat.le_of_ble_eq_true rfl)⟩) k_preS rfl rfl hl.1 rfl (lv_room (Nat.le_of_ble_eq_true rfl)) dX4_pairAt_9 ⟨Nat.zero_le _, Nat.zero_le _⟩) ?_
  refine r_topi (show bI (inB q (nI 0) ((mfC y g n) - (nI 1))) = bI false from congrArg bI (hin)) ?_
  refine r_ifeqB (b := false) (tgt := 19) hx hb dX4_pairAt_12 (by decide) (fun _ => ?_) (fun h => absurd h (by decide))
  refine lv_iconst (v := nI 1) hx hb dX4_pairAt_19 (by decide) ?_
  refine k_Wi (va_runV (As := [.int (nI 1)]) (rest := []) hF (c_X4_isFine_1 l D cI cA ad th n (mfS y g n)) (cwV 1 hts gX4_pairAt_X4_isFine rfl rfl rfl (by decide +kernel) ⟨(Nat.le_of_ble_eq_true rfl), (Nat.le_of_ble_eq_true rfl)⟩) (k_pre hP hK hD hT (k := 0) (by decide) mF_0 rfl) rfl rfl hl.1 rfl (lv_room (Nat.le_of_ble_eq_true rfl)) dX4_pairAt_20 ⟨Nat.zero_le _, Nat.zero_le _⟩) hD hS (fun H locs hP hS => ?_)
  refine r_ifneB (b := false) (tgt := 28) hx hb dX4_pairAt_23 (by decide) (fun h => absurd h (by decide)) (fun _ => ?_)
  refine lv_iconst (v := nI 0) hx hb dX4_pairAt_26 (by decide) ?_
  exact hret _ _ _ _ _ _ hP hS dX4_pairAt_27 (rfl) (rfl)
