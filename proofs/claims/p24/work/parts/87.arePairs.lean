set_option maxHeartbeats 4000000 in
set_option maxRecDepth 100000 in
theorem c_L_arePairs (l : Launch) (D : va_G) (cI : ClassId) (cA : ClassId) (ad : Nat → Nat) (n : Nat) (x : Nat → Nat → Int32) (K : Nat) (sn0 : Nat → Int32) (hlt : l.stackTraces = false) (hG : Gd K n x) : Met l yL_arePairs wsL_arePairs ({ frames := 8, cells := 1, slots := 6, locals := 162 }) (va_Pc [.ref (ad 0), .ref (ad 46)] (wG D cI cA ad (sF cI cA ad n x sn0) 47)) (qE D cI cA ad n x) 1 6 (wA ad 47) := by
  refine c_ofE (cc := cL_arePairs) (maxL := 11) (by decide) rfl (Nat.le_of_ble_eq_true rfl) ?_
  intro p e s m av below meth cd Q hx hb hF hP hK hD hT hXF hC hret ls hl
  have hown : s.vm.findClass RL = some m.cls := hF.2.2.2.1
  have hF : CallFix p m cd cL_arePairs 11 s av wsL_arePairs RL := hF
  have hts := hF.2.2.2.2
  have hl : lv_has ls 11 [(0, .ref (ad 0)), (1, .ref (ad 46))] := hl
  have hn := hG.n24
  have hM := Mp_le (n := n) (x := x)
  obtain ⟨M, eM⟩ : ∃ M, M = Mp n x := ⟨_, rfl⟩
  rw [← eM] at hM
  have hS : va_S (wA ad 47) s.heap s.heap [] := va_S.rf
  have hL59 : ∀ (f q bf : Nat) (last : Int32) (sn : Nat → Int32) (x3 : Nat → Nat → Int32) (H : Heap) (locs : List Loc), q + f = 12 → Pl n x q bf last sn → (∀ a, a ≠ 12 → x3 a = x a) → va_P D vwCl (wl ad (sF cI cA ad n x3 sn) 47) H → va_S (wA ad 47) s.heap H locs → ∀ ls : Array Slot, lv_has ls 11 [(0, .ref (ad 0)), (1, .ref (ad 46)), (2, .int (nI M)), (3, .int (nI 1)), (4, .int (nI bf)), (5, .int last), (6, .int (nI q))] → W p l e ({ frames := 8, cells := 1, slots := 6, locals := 162 }) s m av below meth cd H locs (0 + 1) (0 + 6) Q (F0 m 59 ls []) := by
    intro f
    induction f with
    | zero =>
      intro q bf last sn x3 H locs hf hp hx3 hP hS ls hl
      have hbf := hp.bf hG
      refine lv_iload hx hb dL_arePairs_59 (lv_at hl 6 rfl) ?_
      refine lv_iload_n hx hb dL_arePairs_61 rfl (lv_at hl 2 rfl) ?_
      refine r_cgeN (a := q) (b := M) (tgt := 211) hx hb (by omega) (by omega) dL_arePairs_62 (by decide) (fun _ => ?_) (fun hq => ?_)
      · refine lv_iload_n hx hb dL_arePairs_211 rfl (lv_at hl 3 rfl) ?_
        exact hret H locs _ _ 212 ls x3 sn hP hS hx3 dL_arePairs_212 (Nat.le_of_ble_eq_true rfl) (Nat.le_of_ble_eq_true rfl)
      · refine lv_iload hx hb dL_arePairs_65 (lv_at hl 6 rfl) ?_
        refine lv_bipush (v := nI 12) hx hb dL_arePairs_67 (by decide) ?_
        refine r_cgeN (a := q) (b := 12) (tgt := 211) hx hb (by omega) (by omega) dL_arePairs_69 (by decide) (fun _ => ?_) (fun h => absurd h (by omega))
        refine lv_iload_n hx hb dL_arePairs_211 rfl (lv_at hl 3 rfl) ?_
        exact hret H locs _ _ 212 ls x3 sn hP hS hx3 dL_arePairs_212 (Nat.le_of_ble_eq_true rfl) (Nat.le_of_ble_eq_true rfl)
    | succ f ih =>
      intro q bf last sn x3 H locs hf hp hx3 hP hS ls hl
      have hbf := hp.bf hG
      refine lv_iload hx hb dL_arePairs_59 (lv_at hl 6 rfl) ?_
      refine lv_iload_n hx hb dL_arePairs_61 rfl (lv_at hl 2 rfl) ?_
      refine r_cgeN (a := q) (b := M) (tgt := 211) hx hb (by omega) (by omega) dL_arePairs_62 (by decide) (fun _ => ?_) (fun hq => ?_)
      · refine lv_iload_n hx hb dL_arePairs_211 rfl (lv_at hl 3 rfl) ?_
        exact hret H locs _ _ 212 ls x3 sn hP hS hx3 dL_arePairs_212 (Nat.le_of_ble_eq_true rfl) (Nat.le_of_ble_eq_true rfl)
      · refine lv_iload hx hb dL_arePairs_65 (lv_at hl 6 rfl) ?_
        refine lv_bipush (v := nI 12) hx hb dL_arePairs_67 (by decide) ?_
        refine r_cgeN (a := q) (b := 12) (tgt := 211) hx hb (by omega) (by omega) dL_arePairs_69 (by decide) (fun h => absurd h (by omega)) (fun _ => ?_)
        refine lv_iload_n hx hb dL_arePairs_72 rfl (lv_at hl 3 rfl) ?_
        refine r_ifeqN (a := 1) (tgt := 211) hx hb (by omega) dL_arePairs_73 (by decide) (fun h => absurd h (by decide)) (fun _ => ?_)
        obtain ⟨a, a1, a2, a3, a4⟩ := hG.place hx3 (q := q) (by omega)
        have ok := W_ok a3
        have h152 := hG.W152 a
        have hsc := sg_sc a3 h152 (hG.W_sg ok)
        have hcmp := hp.cmp hG a1 a2
        refine lv_aload_n hx hb dL_arePairs_76 rfl (lv_at hl 0 rfl) ?_
        refine lv_iload hx hb dL_arePairs_77 (lv_at hl 6 rfl) ?_
        refine k_C (va_runV (As := [.int (nI q)]) (rest := []) hF (c_X3_pairAt l D cI cA ad n x3 q hn (by omega) (by rw [hG.tl hx3, ← eM]; exact nI_lt hq (by omega))) (cwV 1 hts gL_arePairs_X3_pairAt rfl rfl rfl (by decide +kernel) ⟨(Nat.le_of_ble_eq_true rfl), (Nat.le_of_ble_eq_true rfl)⟩) (k_pre (sP_c hP) hK (sD_c hD) hT (k := 0) (by decide) cF_0 rfl) rfl rfl hl.1 rfl (lv_room (Nat.le_of_ble_eq_true rfl)) dL_arePairs_79 ⟨(Nat.le_of_ble_eq_true rfl), (Nat.le_of_ble_eq_true rfl)⟩) hD hP hS (fun H locs hP hS => ?_)
        obtain ⟨x4, e4⟩ : ∃ x4, x4 = tlS x3 n := ⟨_, rfl⟩
        have hx4 : ∀ a, a ≠ 12 → x4 a = x a := fun a ha => by rw [e4, tlS_o ha]; exact hx3 a ha
        rw [← e4] at hP
        refine r_topi (show (pW (tlS x3 n) n 152 (nI q) : Int32) = nI (100 * (a / 24) + (a % 24)) from a4) ?_
        refine lv_istore (lv' := [(7, .int (nI (100 * (a / 24) + (a % 24)))), (0, .ref (ad 0)), (1, .ref (ad 46)), (2, .int (nI M)), (3, .int (nI 1)), (4, .int (nI bf)), (5, .int last), (6, .int (nI q))]) hx hb dL_arePairs_82 hl (by decide) rfl (fun ls hl => ?_)
        refine lv_iload hx hb dL_arePairs_84 (lv_at hl 0 rfl) ?_
        refine lv_bipush (v := nI 100) hx hb dL_arePairs_86 (by decide) ?_
        refine r_divN (a := 100 * (a / 24) + (a % 24)) (b := 100) hx hb dL_arePairs_88 (by omega) (by omega) (by omega) ?_
        refine r_topi (show (nI (((100 * (a / 24) + (a % 24)) / 100)) : Int32) = nI ((a / 24)) from congrArg nI (by omega)) ?_
        refine lv_istore (lv' := [(8, .int (nI ((a / 24)))), (7, .int (nI (100 * (a / 24) + (a % 24)))), (0, .ref (ad 0)), (1, .ref (ad 46)), (2, .int (nI M)), (3, .int (nI 1)), (4, .int (nI bf)), (5, .int last), (6, .int (nI q))]) hx hb dL_arePairs_89 hl (by decide) rfl (fun ls hl => ?_)
        refine lv_iload hx hb dL_arePairs_91 (lv_at hl 1 rfl) ?_
        refine lv_bipush (v := nI 100) hx hb dL_arePairs_93 (by decide) ?_
        refine r_remN (a := 100 * (a / 24) + (a % 24)) (b := 100) hx hb dL_arePairs_95 (by omega) (by omega) (by omega) ?_
        refine r_topi (show (nI (((100 * (a / 24) + (a % 24)) % 100)) : Int32) = nI ((a % 24)) from congrArg nI (by omega)) ?_
        refine lv_istore (lv' := [(9, .int (nI ((a % 24)))), (8, .int (nI ((a / 24)))), (7, .int (nI (100 * (a / 24) + (a % 24)))), (0, .ref (ad 0)), (1, .ref (ad 46)), (2, .int (nI M)), (3, .int (nI 1)), (4, .int (nI bf)), (5, .int last), (6, .int (nI q))]) hx hb dL_arePairs_96 hl (by decide) rfl (fun ls hl => ?_)
        refine lv_aload_n hx hb dL_arePairs_98 rfl (lv_at hl 3 rfl) ?_
        refine lv_iload hx hb dL_arePairs_99 (lv_at hl 1 rfl) ?_
        refine lv_iload hx hb dL_arePairs_101 (lv_at hl 0 rfl) ?_
        refine k_Ri (va_runV (As := [.int (nI ((a / 24))), .int (nI ((a % 24)))]) (rest := []) hF (c_X3_score l D cI cA ad n x4 ((a / 24)) ((a % 24)) (by omega) (by omega) (by omega) hn) (cwV 2 hts gL_arePairs_X3_score rfl rfl rfl (by decide +kernel) ⟨(Nat.le_of_ble_eq_true rfl), (Nat.le_of_ble_eq_true rfl)⟩) (k_pre (sP_c hP) hK (sD_c hD) hT (k := 0) (by decide) cF_0 rfl) rfl rfl hl.1 rfl (lv_room (Nat.le_of_ble_eq_true rfl)) dL_arePairs_103 ⟨(Nat.le_of_ble_eq_true rfl), (Nat.le_of_ble_eq_true rfl)⟩) ?_
        refine r_topi (show (sc x4 ((a / 24)) ((a % 24)) : Int32) = nI ((Wf x n a)) from (sc_same hx4 _ _).trans hsc.1) ?_
        refine lv_istore (lv' := [(10, .int (nI ((Wf x n a)))), (9, .int (nI ((a % 24)))), (8, .int (nI ((a / 24)))), (7, .int (nI (100 * (a / 24) + (a % 24)))), (0, .ref (ad 0)), (1, .ref (ad 46)), (2, .int (nI M)), (3, .int (nI 1)), (4, .int (nI bf)), (5, .int last), (6, .int (nI q))]) hx hb dL_arePairs_106 hl (by decide) rfl (fun ls hl => ?_)
        refine lv_iload hx hb dL_arePairs_108 (lv_at hl 2 rfl) ?_
        refine lv_iload hx hb dL_arePairs_110 (lv_at hl 1 rfl) ?_
        refine r_cgeN (a := (a / 24)) (b := (a % 24)) (tgt := 184) hx hb (by omega) (by omega) dL_arePairs_112 (by decide) (fun h => absurd h (by omega)) (fun _ => ?_)
        refine lv_iload hx hb dL_arePairs_115 (lv_at hl 0 rfl) ?_
        refine r_ifleN (a := (Wf x n a)) (tgt := 184) hx hb (by omega) dL_arePairs_117 (by decide) (fun h => absurd h (by omega)) (fun _ => ?_)
        have h141 : ∀ ls : Array Slot, lv_has ls 11 [(10, .int (nI ((Wf x n a)))), (9, .int (nI ((a % 24)))), (8, .int (nI ((a / 24)))), (7, .int (nI (100 * (a / 24) + (a % 24)))), (0, .ref (ad 0)), (1, .ref (ad 46)), (2, .int (nI M)), (3, .int (nI 1)), (4, .int (nI bf)), (5, .int last), (6, .int (nI q))] → W p l e ({ frames := 8, cells := 1, slots := 6, locals := 162 }) s m av below meth cd H locs (0 + 1) (0 + 6) Q (F0 m 141 ls []) := by
          intro ls hl
          refine lv_aload_n hx hb dL_arePairs_141 rfl (lv_at hl 5 rfl) ?_
          refine lv_iload hx hb dL_arePairs_142 (lv_at hl 2 rfl) ?_
          refine r_iald hx hb hK hP 46 0 (by decide) sF_46 rfl (i := (a / 24)) (by omega) (by decide) dL_arePairs_144 ?_
          refine lv_iload hx hb dL_arePairs_145 (lv_at hl 1 rfl) ?_
          refine lv_ishr hx hb dL_arePairs_147 ?_
          refine lv_iconst (v := nI 1) hx hb dL_arePairs_148 (by decide) ?_
          refine lv_iand hx hb dL_arePairs_149 ?_
          refine r_topi (show (((sn ((a / 24))) >>> ((nI ((a % 24))) &&& 31)) &&& (nI 1) : Int32) = nI 0 from (shb (by omega)).trans (by rw [hp.un a2 (by omega)]; rfl)) ?_
          refine r_ifneN (a := 0) (tgt := 184) hx hb (by omega) dL_arePairs_150 (by decide) (fun h => absurd h (by decide)) (fun _ => ?_)
          refine lv_aload_n hx hb dL_arePairs_153 rfl (lv_at hl 4 rfl) ?_
          refine lv_iload hx hb dL_arePairs_154 (lv_at hl 2 rfl) ?_
          refine k_Ri (va_runV (As := [.int (nI ((a / 24)))]) (rest := []) hF (c_X3_group l D cI cA ad n x4 ((a / 24)) (by omega) hn) (cwV 1 hts gL_arePairs_X3_group rfl rfl rfl (by decide +kernel) ⟨(Nat.le_of_ble_eq_true rfl), (Nat.le_of_ble_eq_true rfl)⟩) (k_pre (sP_c hP) hK (sD_c hD) hT (k := 0) (by decide) cF_0 rfl) rfl rfl hl.1 rfl (lv_room (Nat.le_of_ble_eq_true rfl)) dL_arePairs_156 ⟨(Nat.le_of_ble_eq_true rfl), (Nat.le_of_ble_eq_true rfl)⟩) ?_
          refine lv_iload hx hb dL_arePairs_159 (lv_at hl 1 rfl) ?_
          refine lv_ishr hx hb dL_arePairs_161 ?_
          refine lv_iconst (v := nI 1) hx hb dL_arePairs_162 (by decide) ?_
          refine lv_iand hx hb dL_arePairs_163 ?_
          refine r_topi (show (((x4 9 ((a / 24))) >>> ((nI ((a % 24))) &&& 31)) &&& (nI 1) : Int32) = nI 0 from (shb (by omega)).trans (by rw [hx4 9 (by decide), hsc.2]; rfl)) ?_
          refine r_ifneN (a := 0) (tgt := 184) hx hb (by omega) dL_arePairs_164 (by decide) (fun h => absurd h (by decide)) (fun _ => ?_)
          refine lv_aload_n hx hb dL_arePairs_167 rfl (lv_at hl 4 rfl) ?_
          refine lv_iload hx hb dL_arePairs_168 (lv_at hl 1 rfl) ?_
          refine lv_iload hx hb dL_arePairs_170 (lv_at hl 2 rfl) ?_
          refine k_Ri (va_runV (As := [.int (nI ((a % 24))), .int (nI ((a / 24)))]) (rest := []) hF (c_X3_score l D cI cA ad n x4 ((a % 24)) ((a / 24)) (by omega) (by omega) (by omega) hn) (cwV 2 hts gL_arePairs_X3_score rfl rfl rfl (by decide +kernel) ⟨(Nat.le_of_ble_eq_true rfl), (Nat.le_of_ble_eq_true rfl)⟩) (k_pre (sP_c hP) hK (sD_c hD) hT (k := 0) (by decide) cF_0 rfl) rfl rfl hl.1 rfl (lv_room (Nat.le_of_ble_eq_true rfl)) dL_arePairs_172 ⟨(Nat.le_of_ble_eq_true rfl), (Nat.le_of_ble_eq_true rfl)⟩) ?_
          refine r_topi (show (sc x4 ((a % 24)) ((a / 24)) : Int32) = nI ((Wf x n a)) from (sc_same hx4 _ _).trans ((hG.scS (by omega) (by omega)).trans hsc.1)) ?_
          refine lv_iload hx hb dL_arePairs_175 (lv_at hl 0 rfl) ?_
          refine r_cneN (a := (Wf x n a)) (b := (Wf x n a)) (tgt := 184) hx hb (by omega) (by omega) dL_arePairs_177 (by decide) (fun h => absurd rfl h) (fun _ => ?_)
          refine lv_iconst (v := nI 1) hx hb dL_arePairs_180 (by decide) ?_
          refine lv_goto (tgt := 185) hx hb dL_arePairs_181 (by decide) ?_
          refine lv_istore_n (lv' := [(3, .int (nI 1)), (10, .int (nI ((Wf x n a)))), (9, .int (nI ((a % 24)))), (8, .int (nI ((a / 24)))), (7, .int (nI (100 * (a / 24) + (a % 24)))), (0, .ref (ad 0)), (1, .ref (ad 46)), (2, .int (nI M)), (4, .int (nI bf)), (5, .int last), (6, .int (nI q))]) hx hb dL_arePairs_185 rfl hl (by decide) rfl (fun ls hl => ?_)
          refine lv_aload_n hx hb dL_arePairs_186 rfl (lv_at hl 6 rfl) ?_
          refine lv_iload hx hb dL_arePairs_187 (lv_at hl 3 rfl) ?_
          refine lv_dup2_11 hx hb dL_arePairs_189 rfl rfl ?_
          refine r_iald hx hb hK hP 46 0 (by decide) sF_46 rfl (i := (a / 24)) (by omega) (by decide) dL_arePairs_190 ?_
          refine lv_iconst (v := nI 1) hx hb dL_arePairs_191 (by decide) ?_
          refine lv_iload hx hb dL_arePairs_192 (lv_at hl 2 rfl) ?_
          refine r_bit hx hb dL_arePairs_194 ?_
          refine lv_ior hx hb dL_arePairs_195 ?_
          refine r_sput hx hb hK hP hD hS (i := (a / 24)) (by omega) dL_arePairs_196 (fun H locs hP hS => ?_)
          refine lv_iload hx hb dL_arePairs_197 (lv_at hl 1 rfl) ?_
          refine lv_istore (lv' := [(4, .int (nI ((Wf x n a)))), (3, .int (nI 1)), (10, .int (nI ((Wf x n a)))), (9, .int (nI ((a % 24)))), (8, .int (nI ((a / 24)))), (7, .int (nI (100 * (a / 24) + (a % 24)))), (0, .ref (ad 0)), (1, .ref (ad 46)), (2, .int (nI M)), (5, .int last), (6, .int (nI q))]) hx hb dL_arePairs_199 hl (by decide) rfl (fun ls hl => ?_)
          refine lv_iload hx hb dL_arePairs_201 (lv_at hl 5 rfl) ?_
          refine lv_istore (lv' := [(5, .int (nI (100 * (a / 24) + (a % 24)))), (4, .int (nI ((Wf x n a)))), (3, .int (nI 1)), (10, .int (nI ((Wf x n a)))), (9, .int (nI ((a % 24)))), (8, .int (nI ((a / 24)))), (7, .int (nI (100 * (a / 24) + (a % 24)))), (0, .ref (ad 0)), (1, .ref (ad 46)), (2, .int (nI M)), (6, .int (nI q))]) hx hb dL_arePairs_203 hl (by decide) rfl (fun ls hl => ?_)
          refine r_iincN (k := 10) (a := q) (d := 1) (r := q + 1) (lv' := [(6, .int (nI (q + 1))), (5, .int (nI (100 * (a / 24) + (a % 24)))), (4, .int (nI ((Wf x n a)))), (3, .int (nI 1)), (10, .int (nI ((Wf x n a)))), (9, .int (nI ((a % 24)))), (8, .int (nI ((a / 24)))), (7, .int (nI (100 * (a / 24) + (a % 24)))), (0, .ref (ad 0)), (1, .ref (ad 46)), (2, .int (nI M))]) hx hb dL_arePairs_205 hl rfl (by omega) (by decide) rfl (fun ls hl => ?_)
          refine lv_goto (tgt := 59) hx hb dL_arePairs_208 (by decide) ?_
          exact ih (q + 1) (Wf x n a) (nI (100 * (a / 24) + a % 24)) _ x4 H locs (by omega) (hp.go a1 a2) hx4 hP hS _ (lv_sub hl [8, 9, 10, 3, 2, 1, 0] rfl)
        refine lv_iload hx hb dL_arePairs_120 (lv_at hl 0 rfl) ?_
        refine lv_iload hx hb dL_arePairs_122 (lv_at hl 8 rfl) ?_
        refine r_cltN (a := (Wf x n a)) (b := bf) (tgt := 141) hx hb (by omega) (by omega) dL_arePairs_124 (by decide) (fun _ => h141 ls hl) (fun hge => ?_)
        refine lv_iload hx hb dL_arePairs_127 (lv_at hl 0 rfl) ?_
        refine lv_iload hx hb dL_arePairs_129 (lv_at hl 8 rfl) ?_
        refine r_cneN (a := (Wf x n a)) (b := bf) (tgt := 184) hx hb (by omega) (by omega) dL_arePairs_131 (by decide) (fun h => absurd (by omega) h) (fun _ => ?_)
        refine lv_iload hx hb dL_arePairs_134 (lv_at hl 3 rfl) ?_
        refine lv_iload hx hb dL_arePairs_136 (lv_at hl 9 rfl) ?_
        exact lv_icmp_le (tgt := 184) hx hb dL_arePairs_138 (by decide) (fun h => absurd h (hcmp.resolve_left (by omega)).2) (fun _ => h141 ls hl)
  have hL30 : ∀ i, i ≤ 24 → ∀ (sn : Nat → Int32) (x2 : Nat → Nat → Int32) (H : Heap) (locs : List Loc), (∀ j, j < i → sn j = nI 0) → (∀ a, a ≠ 12 → x2 a = x a) → va_P D vwCl (wl ad (sF cI cA ad n x2 sn) 47) H → va_S (wA ad 47) s.heap H locs → ∀ ls : Array Slot, lv_has ls 11 [(0, .ref (ad 0)), (1, .ref (ad 46)), (2, .int (nI M)), (3, .int (nI 1)), (4, .int (nI i))] → W p l e ({ frames := 8, cells := 1, slots := 6, locals := 162 }) s m av below meth cd H locs (0 + 1) (0 + 6) Q (F0 m 30 ls []) := by
    refine down 24 ?_ ?_
    · intro sn x2 H locs hz hx2 hP hS ls hl
      refine lv_iload hx hb dL_arePairs_30 (lv_at hl 4 rfl) ?_
      refine lv_bipush (v := nI 24) hx hb dL_arePairs_32 (by decide) ?_
      refine r_cgeN (a := 24) (b := 24) (tgt := 48) hx hb (by omega) (by omega) dL_arePairs_34 (by decide) (fun _ => ?_) (fun h => absurd h (by decide))
      refine lv_sipush (v := nI 1000) hx hb dL_arePairs_48 (by decide) ?_
      refine lv_istore (lv' := [(4, .int (nI 1000)), (0, .ref (ad 0)), (1, .ref (ad 46)), (2, .int (nI M)), (3, .int (nI 1))]) hx hb dL_arePairs_51 hl (by decide) rfl (fun ls hl => ?_)
      refine lv_iconst (v := (-1)) hx hb dL_arePairs_53 (by decide) ?_
      refine lv_istore (lv' := [(5, .int ((-1))), (4, .int (nI 1000)), (0, .ref (ad 0)), (1, .ref (ad 46)), (2, .int (nI M)), (3, .int (nI 1))]) hx hb dL_arePairs_54 hl (by decide) rfl (fun ls hl => ?_)
      refine lv_iconst (v := nI 0) hx hb dL_arePairs_56 (by decide) ?_
      refine lv_istore (lv' := [(6, .int (nI 0)), (5, .int ((-1))), (4, .int (nI 1000)), (0, .ref (ad 0)), (1, .ref (ad 46)), (2, .int (nI M)), (3, .int (nI 1))]) hx hb dL_arePairs_57 hl (by decide) rfl (fun ls hl => ?_)
      exact hL59 12 0 1000 (-1) sn x2 H locs rfl (Pl.start hz) hx2 hP hS _ (lv_sub hl [3, 4, 5, 6, 2, 1, 0] rfl)
    · intro i hi30 ih30 sn x2 H locs hz hx2 hP hS ls hl
      refine lv_iload hx hb dL_arePairs_30 (lv_at hl 4 rfl) ?_
      refine lv_bipush (v := nI 24) hx hb dL_arePairs_32 (by decide) ?_
      refine r_cgeN (a := i) (b := 24) (tgt := 48) hx hb (by omega) (by omega) dL_arePairs_34 (by decide) (fun h => absurd h (by omega)) (fun _ => ?_)
      refine lv_aload_n hx hb dL_arePairs_37 rfl (lv_at hl 1 rfl) ?_
      refine lv_iload hx hb dL_arePairs_38 (lv_at hl 4 rfl) ?_
      refine lv_iconst (v := nI 0) hx hb dL_arePairs_40 (by decide) ?_
      refine r_sput hx hb hK hP hD hS (i := i) (by omega) dL_arePairs_41 (fun H locs hP hS => ?_)
      refine r_iincN (k := 4) (a := i) (d := 1) (r := i + 1) (lv' := [(4, .int (nI (i + 1))), (0, .ref (ad 0)), (1, .ref (ad 46)), (2, .int (nI M)), (3, .int (nI 1))]) hx hb dL_arePairs_42 hl rfl (by omega) (by decide) rfl (fun ls hl => ?_)
      refine lv_goto (tgt := 30) hx hb dL_arePairs_45 (by decide) ?_
      exact ih30 (upd sn i (nI 0)) x2 H locs (fun j hj => by
        by_cases q : j = i
        · subst q; exact pk_us
        · rw [pk_un q]; exact hz j (by omega)) hx2 hP hS _ (lv_sub hl [1, 2, 3, 4, 0] rfl)
  refine lv_aload_n hx hb dL_arePairs_0 rfl (lv_at hl 0 rfl) ?_
  refine k_C (va_runV (As := []) (rest := []) hF (c_X3_pairs l D cI cA ad n x hn) (cwV 0 hts gL_arePairs_X3_pairs rfl rfl rfl (by decide +kernel) ⟨(Nat.le_of_ble_eq_true rfl), (Nat.le_of_ble_eq_true rfl)⟩) (k_pre (sP_c hP) hK (sD_c hD) hT (k := 0) (by decide) cF_0 rfl) rfl rfl hl.1 rfl (lv_room (Nat.le_of_ble_eq_true rfl)) dL_arePairs_1 ⟨(Nat.le_of_ble_eq_true rfl), (Nat.le_of_ble_eq_true rfl)⟩) hD hP hS (fun H locs hP hS => ?_)
  refine r_topi (show (tlC x n : Int32) = nI M from (hG.tl (fun _ _ => rfl)).trans (by rw [eM])) ?_
  refine lv_istore_n (lv' := [(2, .int (nI M)), (0, .ref (ad 0)), (1, .ref (ad 46))]) hx hb dL_arePairs_4 rfl hl (by decide) rfl (fun ls hl => ?_)
  refine lv_aload_n hx hb dL_arePairs_5 rfl (lv_at hl 1 rfl) ?_
  refine lv_iload_n hx hb dL_arePairs_6 rfl (lv_at hl 0 rfl) ?_
  refine k_O (vx_runSW (As := [.ref (ad 0), .int (nI M)]) (rest := []) hF (w_pair_Ta l D cI cA ad n (tlS x n) (nI M) hlt hn (by rw [hG.tl (fun _ ha => tlS_o ha), ← eM]; exact fun q => absurd q.2 (nI_nlt (Nat.le_refl _) (by omega)))) (vx_cwSW 2 hts gL_arePairs_L_pair rfl rfl rfl (by decide +kernel) ⟨(Nat.le_of_ble_eq_true rfl), (Nat.le_of_ble_eq_true rfl)⟩) (w_pre hK hD hT hXF hC hP hS) rfl rfl hl.1 rfl (lv_room (Nat.le_of_ble_eq_true rfl)) dL_arePairs_7 ⟨(Nat.le_of_ble_eq_true rfl), (Nat.le_of_ble_eq_true rfl)⟩) hD hP hS (fun H locs hP hS => ?_)
  refine lv_iconst (v := (-1)) hx hb dL_arePairs_10 (by decide) ?_
  refine lv_icmp_ne (tgt := 25) hx hb dL_arePairs_11 (by decide) (fun h => absurd rfl h) (fun _ => ?_)
  refine lv_iload_n hx hb dL_arePairs_14 rfl (lv_at hl 0 rfl) ?_
  refine lv_sipush (v := nI 276) hx hb dL_arePairs_15 (by decide) ?_
  refine r_cgtN (a := M) (b := 276) (tgt := 25) hx hb (by omega) (by omega) dL_arePairs_18 (by decide) (fun h => absurd h (by omega)) (fun _ => ?_)
  refine lv_iconst (v := nI 1) hx hb dL_arePairs_21 (by decide) ?_
  refine lv_goto (tgt := 26) hx hb dL_arePairs_22 (by decide) ?_
  refine lv_istore_n (lv' := [(3, .int (nI 1)), (2, .int (nI M)), (0, .ref (ad 0)), (1, .ref (ad 46))]) hx hb dL_arePairs_26 rfl hl (by decide) rfl (fun ls hl => ?_)
  refine lv_iconst (v := nI 0) hx hb dL_arePairs_27 (by decide) ?_
  refine lv_istore (lv' := [(4, .int (nI 0)), (3, .int (nI 1)), (2, .int (nI M)), (0, .ref (ad 0)), (1, .ref (ad 46))]) hx hb dL_arePairs_28 hl (by decide) rfl (fun ls hl => ?_)
  exact hL30 0 (Nat.zero_le _) sn0 _ H locs (fun j hj => absurd hj (Nat.not_lt_zero _)) (fun a ha => by rw [tlS_o ha, tlS_o ha]) hP hS _ (lv_sub hl [3, 4, 2, 1, 0] rfl)
