set_option maxHeartbeats 4000000 in
set_option maxRecDepth 100000 in
theorem c_L_isCard (l : Launch) (D : va_G) (cI : ClassId) (cA : ClassId) (ad : Nat → Nat) (n : Nat) (x : Nat → Nat → Int32) (c : Nat) (K : Nat) (hc : c < n) (hn : n ≤ 24) (hG : Gd K n x) : Met l yL_isCard wsL_isCard ({ frames := 3, cells := 0, slots := 0, locals := 77 }) (va_Pc [.ref (ad 0), .int (nI c)] (cX D cI cA ad n x)) (qR (some (.int (bI true)))) 0 0 nF := by
  refine c_ofR (cc := cL_isCard) (maxL := 10) (ret := .boolean) (by decide) rfl (nar_bI _) (Nat.le_of_ble_eq_true rfl) ?_
  intro p e s m av below meth cd Q hx hb hF hP hK hD hT hret ls hl
  have hown : s.vm.findClass RL = some m.cls := hF.2.2.2.1
  have hF : CallFix p m cd cL_isCard 10 s av wsL_isCard RL := hF
  have hts := hF.2.2.2.2
  have hl : lv_has ls 10 [(0, .ref (ad 0)), (1, .int (nI c))] := hl
  obtain ⟨hpl, hpi, hpe, hpp⟩ := hG.best hc
  refine lv_aload_n hx hb dL_isCard_0 rfl (lv_at hl 0 rfl) ?_
  refine lv_iload_n hx hb dL_isCard_1 rfl (lv_at hl 1 rfl) ?_
  refine k_Ri (va_runV (As := [.int (nI c)]) (rest := []) hF (c_X3_group l D cI cA ad n x c hc hn) (cwV 1 hts gL_isCard_X3_group rfl rfl rfl (by decide +kernel) ⟨(Nat.le_of_ble_eq_true rfl), (Nat.le_of_ble_eq_true rfl)⟩) (k_pre hP hK hD hT (k := 0) (by decide) cF_0 rfl) rfl rfl hl.1 rfl (lv_room (Nat.le_of_ble_eq_true rfl)) dL_isCard_2 ⟨Nat.zero_le _, Nat.zero_le _⟩) ?_
  refine lv_istore_n (lv' := [(2, .int (x 9 c)), (0, .ref (ad 0)), (1, .int (nI c))]) hx hb dL_isCard_5 rfl hl (by decide) rfl (fun ls hl => ?_)
  refine lv_aload_n hx hb dL_isCard_6 rfl (lv_at hl 1 rfl) ?_
  refine lv_iload_n hx hb dL_isCard_7 rfl (lv_at hl 2 rfl) ?_
  refine k_Ri (va_runV (As := [.int (nI c)]) (rest := []) hF (c_X3_preferred l D cI cA ad n x c hc hn) (cwV 1 hts gL_isCard_X3_preferred rfl rfl rfl (by decide +kernel) ⟨(Nat.le_of_ble_eq_true rfl), (Nat.le_of_ble_eq_true rfl)⟩) (k_pre hP hK hD hT (k := 0) (by decide) cF_0 rfl) rfl rfl hl.1 rfl (lv_room (Nat.le_of_ble_eq_true rfl)) dL_isCard_8 ⟨Nat.zero_le _, Nat.zero_le _⟩) ?_
  refine lv_istore_n (lv' := [(3, .int (nI (prefF (x 4) (x 9 c) c n))), (2, .int (x 9 c)), (0, .ref (ad 0)), (1, .int (nI c))]) hx hb dL_isCard_11 rfl hl (by decide) rfl (fun ls hl => ?_)
  refine lv_iload_n hx hb dL_isCard_12 rfl (lv_at hl 1 rfl) ?_
  refine lv_iload_n hx hb dL_isCard_13 rfl (lv_at hl 3 rfl) ?_
  refine lv_ishr hx hb dL_isCard_14 ?_
  refine lv_iconst (v := nI 1) hx hb dL_isCard_15 (by decide) ?_
  refine lv_iand hx hb dL_isCard_16 ?_
  refine lv_iconst (v := nI 1) hx hb dL_isCard_17 (by decide) ?_
  refine lv_icmp_ne (tgt := 52) hx hb dL_isCard_18 (by decide) (fun h => absurd ((mhas (by omega)).mpr (hG.self hc)) h) (fun _ => ?_)
  refine lv_iload_n hx hb dL_isCard_21 rfl (lv_at hl 1 rfl) ?_
  refine lv_iload_n hx hb dL_isCard_22 rfl (lv_at hl 0 rfl) ?_
  refine lv_ishr hx hb dL_isCard_23 ?_
  refine lv_iconst (v := nI 1) hx hb dL_isCard_24 (by decide) ?_
  refine lv_iand hx hb dL_isCard_25 ?_
  refine lv_iconst (v := nI 1) hx hb dL_isCard_26 (by decide) ?_
  refine lv_icmp_ne (tgt := 52) hx hb dL_isCard_27 (by decide) (fun h => absurd ((mhas (by omega)).mpr hpi) h) (fun _ => ?_)
  refine lv_aload_n hx hb dL_isCard_30 rfl (lv_at hl 2 rfl) ?_
  refine lv_iload_n hx hb dL_isCard_31 rfl (lv_at hl 0 rfl) ?_
  refine k_Ri (va_runV (As := [.int (nI (prefF (x 4) (x 9 c) c n))]) (rest := []) hF (c_X3_group l D cI cA ad n x (prefF (x 4) (x 9 c) c n) (by omega) hn) (cwV 1 hts gL_isCard_X3_group rfl rfl rfl (by decide +kernel) ⟨(Nat.le_of_ble_eq_true rfl), (Nat.le_of_ble_eq_true rfl)⟩) (k_pre hP hK hD hT (k := 0) (by decide) cF_0 rfl) rfl rfl hl.1 rfl (lv_room (Nat.le_of_ble_eq_true rfl)) dL_isCard_32 ⟨Nat.zero_le _, Nat.zero_le _⟩) ?_
  refine lv_iload_n hx hb dL_isCard_35 rfl (lv_at hl 1 rfl) ?_
  refine lv_icmp_ne (tgt := 52) hx hb dL_isCard_36 (by decide) (fun h => absurd hpe h) (fun _ => ?_)
  refine lv_aload_n hx hb dL_isCard_39 rfl (lv_at hl 2 rfl) ?_
  refine lv_iload_n hx hb dL_isCard_40 rfl (lv_at hl 0 rfl) ?_
  refine k_Ri (va_runV (As := [.int (nI (prefF (x 4) (x 9 c) c n))]) (rest := []) hF (c_X3_preferred l D cI cA ad n x (prefF (x 4) (x 9 c) c n) (by omega) hn) (cwV 1 hts gL_isCard_X3_preferred rfl rfl rfl (by decide +kernel) ⟨(Nat.le_of_ble_eq_true rfl), (Nat.le_of_ble_eq_true rfl)⟩) (k_pre hP hK hD hT (k := 0) (by decide) cF_0 rfl) rfl rfl hl.1 rfl (lv_room (Nat.le_of_ble_eq_true rfl)) dL_isCard_41 ⟨Nat.zero_le _, Nat.zero_le _⟩) ?_
  refine lv_iload_n hx hb dL_isCard_44 rfl (lv_at hl 0 rfl) ?_
  refine r_cneN (a := prefF (x 4) (x 9 (prefF (x 4) (x 9 c) c n)) (prefF (x 4) (x 9 c) c n) n) (b := prefF (x 4) (x 9 c) c n) (tgt := 52) hx hb (by omega) (by omega) dL_isCard_45 (by decide) (fun h => absurd hpp h) (fun _ => ?_)
  refine lv_iconst (v := nI 1) hx hb dL_isCard_48 (by decide) ?_
  refine lv_goto (tgt := 53) hx hb dL_isCard_49 (by decide) ?_
  refine lv_istore (lv' := [(4, .int (nI 1)), (3, .int (nI (prefF (x 4) (x 9 c) c n))), (2, .int (x 9 c)), (0, .ref (ad 0)), (1, .int (nI c))]) hx hb dL_isCard_53 hl (by decide) rfl (fun ls hl => ?_)
  refine lv_iconst (v := nI 0) hx hb dL_isCard_55 (by decide) ?_
  refine lv_istore (lv' := [(5, .int (nI 0)), (4, .int (nI 1)), (3, .int (nI (prefF (x 4) (x 9 c) c n))), (2, .int (x 9 c)), (0, .ref (ad 0)), (1, .int (nI c))]) hx hb dL_isCard_56 hl (by decide) rfl (fun ls hl => ?_)
  have hL58 : ∀ k : Nat, k ≤ 2 → ∀ ls : Array Slot, lv_has ls 10 [(0, .ref (ad 0)), (1, .int (nI c)), (2, .int (x 9 c)), (3, .int (nI (prefF (x 4) (x 9 c) c n))), (4, .int (nI 1)), (5, .int (nI k))] → W p l e ({ frames := 3, cells := 0, slots := 0, locals := 77 }) s m av below meth cd s.heap [] 0 0 Q (F0 m 58 ls []) := by
    refine down (2) ?_ ?_
    · intro ls hl
      refine lv_iload hx hb dL_isCard_58 (lv_at hl 5 rfl) ?_
      refine lv_iconst (v := nI 2) hx hb dL_isCard_60 (by decide) ?_
      refine r_cgeN (a := 2) (b := 2) (tgt := 209) hx hb (by omega) (by omega) dL_isCard_61 (by decide) (fun _ => ?_) (fun h => absurd h (by omega))
      refine lv_iload hx hb dL_isCard_209 (lv_at hl 4 rfl) ?_
      exact hret _ _ _ dL_isCard_211 (rfl)
    · intro k hi58 ih58 ls hl
      refine lv_iload hx hb dL_isCard_58 (lv_at hl 5 rfl) ?_
      refine lv_iconst (v := nI 2) hx hb dL_isCard_60 (by decide) ?_
      refine r_cgeN (a := k) (b := 2) (tgt := 209) hx hb (by omega) (by omega) dL_isCard_61 (by decide) (fun h => absurd h (by omega)) (fun _ => ?_)
      refine lv_iload hx hb dL_isCard_64 (lv_at hl 4 rfl) ?_
      refine r_ifeqN (a := 1) (tgt := 209) hx hb (by omega) dL_isCard_66 (by decide) (fun h => absurd h (by omega)) (fun _ => ?_)
      refine lv_aload_n hx hb dL_isCard_69 rfl (lv_at hl 0 rfl) ?_
      refine lv_iload_n hx hb dL_isCard_70 rfl (lv_at hl 1 rfl) ?_
      refine lv_iconst (v := nI 0) hx hb dL_isCard_71 (by decide) ?_
      refine lv_iload hx hb dL_isCard_72 (lv_at hl 5 rfl) ?_
      refine k_Ri (va_runV (As := [.int (nI c), .int (nI 0), .int (nI k)]) (rest := []) hF (c_X3_values l D cI cA ad n x c 0 k hc hn (by omega) (by omega)) (cwV 3 hts gL_isCard_X3_values rfl rfl rfl (by decide +kernel) ⟨(Nat.le_of_ble_eq_true rfl), (Nat.le_of_ble_eq_true rfl)⟩) (k_pre hP hK hD hT (k := 0) (by decide) cF_0 rfl) rfl rfl hl.1 rfl (lv_room (Nat.le_of_ble_eq_true rfl)) dL_isCard_74 ⟨Nat.zero_le _, Nat.zero_le _⟩) ?_
      refine r_topi (show x (2 * 0 + k + 16) c = x (k + 16) c from congrArg (fun r => x r c) (by omega)) ?_
      refine lv_istore (lv' := [(6, .int (x (k + 16) c)), (0, .ref (ad 0)), (1, .int (nI c)), (2, .int (x 9 c)), (3, .int (nI (prefF (x 4) (x 9 c) c n))), (4, .int (nI 1)), (5, .int (nI k))]) hx hb dL_isCard_77 hl (by decide) rfl (fun ls hl => ?_)
      refine lv_aload_n hx hb dL_isCard_79 rfl (lv_at hl 1 rfl) ?_
      refine lv_iload_n hx hb dL_isCard_80 rfl (lv_at hl 2 rfl) ?_
      refine lv_iconst (v := nI 1) hx hb dL_isCard_81 (by decide) ?_
      refine lv_iload hx hb dL_isCard_82 (lv_at hl 6 rfl) ?_
      refine k_Ri (va_runV (As := [.int (nI c), .int (nI 1), .int (nI k)]) (rest := []) hF (c_X3_values l D cI cA ad n x c 1 k hc hn (by omega) (by omega)) (cwV 3 hts gL_isCard_X3_values rfl rfl rfl (by decide +kernel) ⟨(Nat.le_of_ble_eq_true rfl), (Nat.le_of_ble_eq_true rfl)⟩) (k_pre hP hK hD hT (k := 0) (by decide) cF_0 rfl) rfl rfl hl.1 rfl (lv_room (Nat.le_of_ble_eq_true rfl)) dL_isCard_84 ⟨Nat.zero_le _, Nat.zero_le _⟩) ?_
      refine r_topi (show x (2 * 1 + k + 16) c = x (k + 18) c from congrArg (fun r => x r c) (by omega)) ?_
      refine lv_istore (lv' := [(7, .int (x (k + 18) c)), (6, .int (x (k + 16) c)), (0, .ref (ad 0)), (1, .int (nI c)), (2, .int (x 9 c)), (3, .int (nI (prefF (x 4) (x 9 c) c n))), (4, .int (nI 1)), (5, .int (nI k))]) hx hb dL_isCard_87 hl (by decide) rfl (fun ls hl => ?_)
      refine lv_aload_n hx hb dL_isCard_89 rfl (lv_at hl 2 rfl) ?_
      refine lv_iload_n hx hb dL_isCard_90 rfl (lv_at hl 3 rfl) ?_
      refine lv_iconst (v := nI 2) hx hb dL_isCard_91 (by decide) ?_
      refine lv_iload hx hb dL_isCard_92 (lv_at hl 7 rfl) ?_
      refine k_Ri (va_runV (As := [.int (nI c), .int (nI 2), .int (nI k)]) (rest := []) hF (c_X3_values l D cI cA ad n x c 2 k hc hn (by omega) (by omega)) (cwV 3 hts gL_isCard_X3_values rfl rfl rfl (by decide +kernel) ⟨(Nat.le_of_ble_eq_true rfl), (Nat.le_of_ble_eq_true rfl)⟩) (k_pre hP hK hD hT (k := 0) (by decide) cF_0 rfl) rfl rfl hl.1 rfl (lv_room (Nat.le_of_ble_eq_true rfl)) dL_isCard_94 ⟨Nat.zero_le _, Nat.zero_le _⟩) ?_
      refine r_topi (show x (2 * 2 + k + 16) c = x (k + 20) c from congrArg (fun r => x r c) (by omega)) ?_
      refine lv_istore (lv' := [(8, .int (x (k + 20) c)), (7, .int (x (k + 18) c)), (6, .int (x (k + 16) c)), (0, .ref (ad 0)), (1, .int (nI c)), (2, .int (x 9 c)), (3, .int (nI (prefF (x 4) (x 9 c) c n))), (4, .int (nI 1)), (5, .int (nI k))]) hx hb dL_isCard_97 hl (by decide) rfl (fun ls hl => ?_)
      refine lv_aload_n hx hb dL_isCard_99 rfl (lv_at hl 3 rfl) ?_
      refine lv_iload_n hx hb dL_isCard_100 rfl (lv_at hl 4 rfl) ?_
      refine lv_iload hx hb dL_isCard_101 (lv_at hl 8 rfl) ?_
      refine k_Ri (va_runV (As := [.int (nI c), .int (nI k)]) (rest := []) hF (c_X3_merged l D cI cA ad n x c k hc hn (by omega)) (cwV 2 hts gL_isCard_X3_merged rfl rfl rfl (by decide +kernel) ⟨(Nat.le_of_ble_eq_true rfl), (Nat.le_of_ble_eq_true rfl)⟩) (k_pre hP hK hD hT (k := 0) (by decide) cF_0 rfl) rfl rfl hl.1 rfl (lv_room (Nat.le_of_ble_eq_true rfl)) dL_isCard_103 ⟨Nat.zero_le _, Nat.zero_le _⟩) ?_
      refine lv_istore (lv' := [(9, .int (cSt x c k)), (8, .int (x (k + 20) c)), (7, .int (x (k + 18) c)), (6, .int (x (k + 16) c)), (0, .ref (ad 0)), (1, .int (nI c)), (2, .int (x 9 c)), (3, .int (nI (prefF (x 4) (x 9 c) c n))), (4, .int (nI 1)), (5, .int (nI k))]) hx hb dL_isCard_106 hl (by decide) rfl (fun ls hl => ?_)
      refine lv_iload hx hb dL_isCard_108 (lv_at hl 0 rfl) ?_
      refine lv_aload_n hx hb dL_isCard_110 rfl (lv_at hl 4 rfl) ?_
      refine lv_iload_n hx hb dL_isCard_111 rfl (lv_at hl 5 rfl) ?_
      refine lv_iload hx hb dL_isCard_112 (lv_at hl 9 rfl) ?_
      refine k_Ri (va_runV (As := [.int (nI c), .int (nI k)]) (rest := [.int (cSt x c k)]) hF (c_X3_mergedByValues l D cI cA ad n x c k hc hn (by omega)) (cwV 2 hts gL_isCard_X3_mergedByValues rfl rfl rfl (by decide +kernel) ⟨(Nat.le_of_ble_eq_true rfl), (Nat.le_of_ble_eq_true rfl)⟩) (k_pre hP hK hD hT (k := 0) (by decide) cF_0 rfl) rfl rfl hl.1 rfl (lv_room (Nat.le_of_ble_eq_true rfl)) dL_isCard_114 ⟨Nat.zero_le _, Nat.zero_le _⟩) ?_
      refine lv_icmp_ne (tgt := 200) hx hb dL_isCard_117 (by decide) (fun h => absurd (hG.byV (by omega) (by omega)) h) (fun _ => ?_)
      refine lv_iload hx hb dL_isCard_120 (lv_at hl 0 rfl) ?_
      refine lv_iload hx hb dL_isCard_122 (lv_at hl 3 rfl) ?_
      refine lv_iload hx hb dL_isCard_124 (lv_at hl 2 rfl) ?_
      refine lv_ior hx hb dL_isCard_126 ?_
      refine lv_iconst (v := (-1)) hx hb dL_isCard_127 (by decide) ?_
      refine lv_ixor hx hb dL_isCard_128 ?_
      refine lv_iand hx hb dL_isCard_129 ?_
      refine lv_if_ne (tgt := 200) hx hb dL_isCard_130 (by decide) (fun h => (h mg1).elim) (fun _ => ?_)
      refine lv_iload hx hb dL_isCard_133 (lv_at hl 3 rfl) ?_
      refine lv_iload hx hb dL_isCard_135 (lv_at hl 2 rfl) ?_
      refine lv_iand hx hb dL_isCard_137 ?_
      refine lv_iload hx hb dL_isCard_138 (lv_at hl 0 rfl) ?_
      refine lv_iconst (v := (-1)) hx hb dL_isCard_140 (by decide) ?_
      refine lv_ixor hx hb dL_isCard_141 ?_
      refine lv_iand hx hb dL_isCard_142 ?_
      refine lv_if_ne (tgt := 200) hx hb dL_isCard_143 (by decide) (fun h => (h mg2).elim) (fun _ => ?_)
      refine lv_iload hx hb dL_isCard_146 (lv_at hl 3 rfl) ?_
      refine lv_iload hx hb dL_isCard_148 (lv_at hl 2 rfl) ?_
      refine lv_ior hx hb dL_isCard_150 ?_
      refine lv_iload hx hb dL_isCard_151 (lv_at hl 1 rfl) ?_
      refine lv_iconst (v := (-1)) hx hb dL_isCard_153 (by decide) ?_
      refine lv_ixor hx hb dL_isCard_154 ?_
      refine lv_iand hx hb dL_isCard_155 ?_
      refine lv_iload hx hb dL_isCard_156 (lv_at hl 0 rfl) ?_
      refine lv_iconst (v := (-1)) hx hb dL_isCard_158 (by decide) ?_
      refine lv_ixor hx hb dL_isCard_159 ?_
      refine lv_iand hx hb dL_isCard_160 ?_
      refine lv_if_ne (tgt := 200) hx hb dL_isCard_161 (by decide) (fun h => (h mg3).elim) (fun _ => ?_)
      refine lv_iload hx hb dL_isCard_164 (lv_at hl 3 rfl) ?_
      refine lv_aload_n hx hb dL_isCard_166 rfl (lv_at hl 4 rfl) ?_
      refine lv_iload_n hx hb dL_isCard_167 rfl (lv_at hl 5 rfl) ?_
      refine lv_iload hx hb dL_isCard_168 (lv_at hl 9 rfl) ?_
      refine k_Ri (va_runV (As := [.int (nI c), .int (nI k)]) (rest := [.int (x (k + 16) c)]) hF (c_X3_shown l D cI cA ad n x c k hc hn (by omega)) (cwV 2 hts gL_isCard_X3_shown rfl rfl rfl (by decide +kernel) ⟨(Nat.le_of_ble_eq_true rfl), (Nat.le_of_ble_eq_true rfl)⟩) (k_pre hP hK hD hT (k := 0) (by decide) cF_0 rfl) rfl rfl hl.1 rfl (lv_room (Nat.le_of_ble_eq_true rfl)) dL_isCard_170 ⟨Nat.zero_le _, Nat.zero_le _⟩) ?_
      refine lv_iconst (v := (-1)) hx hb dL_isCard_173 (by decide) ?_
      refine lv_ixor hx hb dL_isCard_174 ?_
      refine lv_iand hx hb dL_isCard_175 ?_
      refine lv_if_ne (tgt := 200) hx hb dL_isCard_176 (by decide) (fun h => (h (hG.mineIn hc)).elim) (fun _ => ?_)
      refine lv_aload_n hx hb dL_isCard_179 rfl (lv_at hl 4 rfl) ?_
      refine lv_iload_n hx hb dL_isCard_180 rfl (lv_at hl 5 rfl) ?_
      refine lv_iload hx hb dL_isCard_181 (lv_at hl 9 rfl) ?_
      refine k_Ri (va_runV (As := [.int (nI c), .int (nI k)]) (rest := []) hF (c_X3_shown l D cI cA ad n x c k hc hn (by omega)) (cwV 2 hts gL_isCard_X3_shown rfl rfl rfl (by decide +kernel) ⟨(Nat.le_of_ble_eq_true rfl), (Nat.le_of_ble_eq_true rfl)⟩) (k_pre hP hK hD hT (k := 0) (by decide) cF_0 rfl) rfl rfl hl.1 rfl (lv_room (Nat.le_of_ble_eq_true rfl)) dL_isCard_183 ⟨Nat.zero_le _, Nat.zero_le _⟩) ?_
      refine lv_aload_n hx hb dL_isCard_186 rfl (lv_at hl 4 rfl) ?_
      refine lv_iload_n hx hb dL_isCard_187 rfl (lv_at hl 7 rfl) ?_
      refine lv_iload hx hb dL_isCard_188 (lv_at hl 9 rfl) ?_
      refine k_Ri (va_runV (As := [.int (nI (prefF (x 4) (x 9 c) c n)), .int (nI k)]) (rest := [.int (orF (x 9 c) (x (k + 16)) n)]) hF (c_X3_shown l D cI cA ad n x (prefF (x 4) (x 9 c) c n) k (by omega) hn (by omega)) (cwV 2 hts gL_isCard_X3_shown rfl rfl rfl (by decide +kernel) ⟨(Nat.le_of_ble_eq_true rfl), (Nat.le_of_ble_eq_true rfl)⟩) (k_pre hP hK hD hT (k := 0) (by decide) cF_0 rfl) rfl rfl hl.1 rfl (lv_room (Nat.le_of_ble_eq_true rfl)) dL_isCard_190 ⟨Nat.zero_le _, Nat.zero_le _⟩) ?_
      refine lv_icmp_ne (tgt := 200) hx hb dL_isCard_193 (by decide) (fun h => absurd (by rw [hpe]) h) (fun _ => ?_)
      refine lv_iconst (v := nI 1) hx hb dL_isCard_196 (by decide) ?_
      refine lv_goto (tgt := 201) hx hb dL_isCard_197 (by decide) ?_
      refine lv_istore (lv' := [(4, .int (nI 1)), (9, .int (cSt x c k)), (8, .int (x (k + 20) c)), (7, .int (x (k + 18) c)), (6, .int (x (k + 16) c)), (0, .ref (ad 0)), (1, .int (nI c)), (2, .int (x 9 c)), (3, .int (nI (prefF (x 4) (x 9 c) c n))), (5, .int (nI k))]) hx hb dL_isCard_201 hl (by decide) rfl (fun ls hl => ?_)
      refine r_iincN (k := 9) (a := k) (d := 1) (r := k + 1) (lv' := [(5, .int (nI (k + 1))), (4, .int (nI 1)), (9, .int (cSt x c k)), (8, .int (x (k + 20) c)), (7, .int (x (k + 18) c)), (6, .int (x (k + 16) c)), (0, .ref (ad 0)), (1, .int (nI c)), (2, .int (x 9 c)), (3, .int (nI (prefF (x 4) (x 9 c) c n)))]) hx hb dL_isCard_203 hl rfl (by omega) (by decide) rfl (fun ls hl => ?_)
      refine lv_goto (tgt := 58) hx hb dL_isCard_206 (by decide) ?_
      exact ih58 _ (lv_sub hl [6, 7, 8, 9, 1, 0] rfl)
  exact hL58 0 (Nat.zero_le _) _ (lv_sub hl [4, 5, 3, 2, 1, 0] rfl)
