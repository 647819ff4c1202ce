/-! the class's constructor -/
def cl3F (cI cA : ClassId) (a0 sz : Nat) : Nat → va_E := fun k => if k = 0 then .inr (3, [.ref (adn a0 sz 1), .ref (adn a0 sz 15), .ref (adn a0 sz 18), .ref (adn a0 sz 45)]) else if k = 45 then .inl (cI, 153, .inl (fun _ => nI 0)) else if k < 15 then caF cI cA (adn a0 sz 1) (sz + 1) (k - 1) else if k < 18 then liF cI (adn a0 sz 15) (sz + 15) 24 (k - 15) else reF cI cA (adn a0 sz 18) (sz + 18) 24 0 (k - 18)
set_option maxHeartbeats 8000000 in
set_option maxRecDepth 100000 in
theorem c_X3_init (l : Launch) (D : va_G) (cI cA : ClassId) (a0 sz : Nat) : Met l yX3_init wsX3_init ({ frames := 2, cells := 45, slots := 1107, locals := 40 }) (va_Pc [.ref a0] (nX D [(cI, .int), (cA, .array .int)] a0 sz (.inr (3, [.null, .null, .null, .null])) xA)) (qN D a0 sz (cl3F cI cA a0 sz) 45) 45 1107 (nA a0 sz) := by
  refine c_ofN (cc := cX3_init) (maxL := 1) (by decide) rfl rfl (by decide) ?_
  intro p e s m av below meth cd Q hx hb hF hini hz hP hK hG hlt hret ls hl
  have hown : s.vm.findClass RX3 = some m.cls := hF.2.2.2.1
  have hml := hF.2.2.1
  have hts := hF.2.2.2.2
  have hF : CallFix p m cd cX3_init 1 s av wsX3_init RX3 := hF
  have hcI : s.vm.findClass "[I" = some cI := (hK.2 0 _ rfl).2
  have hD : ∀ N, wD (nA a0 sz) (adn a0 sz) N := fun N => adn_D hlt
  have hA0 : ∀ k, k ≠ 0 → nA a0 sz (adn a0 sz k) := fun k hk => by rw [adn_s hk]; exact Or.inr (Nat.le_add_right _ _)
  have hS : va_S (nA a0 sz) s.heap s.heap [] := va_S.rf
  obtain ⟨H, eH⟩ : ∃ H9 : Heap, H9 = s.heap := ⟨_, rfl⟩
  rw [← eH] at hP hz
  have hS : va_S (nA a0 sz) s.heap H [] := by rw [eH]; exact hS
  suffices hgo : W p l e ({ frames := 2, cells := 45, slots := 1107, locals := 40 }) s m av below meth cd H [] 0 0 Q (F0 m 0 ls []) by rw [eH] at hgo; exact hgo
  refine lv_aload_n hx hb dX3_init_0 rfl (lv_at hl 0 rfl) ?_
  refine W.objInit hx hb hown (hts (.methodLink RX3 3 objectInit) (by decide +kernel)) (hts (.instanceMethod objectInit) (by decide +kernel)) (hts (.code objectInit ⟨#[0xb1]⟩ 1 none) (by decide +kernel)) rfl (by rw [hml]; exact hl.1) rfl dX3_init_1 (Nat.le_of_ble_eq_true rfl) (Nat.le_of_ble_eq_true rfl) ?_
  refine lv_aload_n hx hb dX3_init_4 rfl (lv_at hl 0 rfl) ?_
  refine r_newO (ad := adn a0 sz) (C := RX0) (T := TX0) (M := 5) (ci := 0) (fs := [.null, .null, .null, .null, .int 0]) hx hb hts (by decide +kernel) tyX0 tyX0_ok hown (hts (.classLink RX3 9 RX0) (by decide +kernel)) (hts (.instantiable RX0 5) (by decide +kernel)) (hts (.initialized RX0) (by decide +kernel)) hK hP (by rw [hz]; rfl) rfl (fun j hj => by rcases (by omega : j = 0 ∨ j = 1 ∨ j = 2 ∨ j = 3 ∨ j = 4) with rfl | rfl | rfl | rfl | rfl <;> first | rfl | omega) (Nat.le_of_ble_eq_true rfl) (Nat.le_of_ble_eq_true rfl) dX3_init_5 (fun H1 hP h1 h2 => ?_)
  have hS := vS_new hS (by omega) h2
  have hz1 : H1.size = sz + 1 := by omega
  clear h1 h2
  refine lv_dup hx hb dX3_init_8 rfl ?_
  refine k_N (N := 1 + 1) (j := 1) (K := 13) (ad := adn a0 sz) (va_runI (As := []) (rest := [.ref (adn a0 sz 1), .ref a0]) hF (c_X0_init l D cI cA (adn a0 sz 1) H1.size) (cwI 0 hts gX3_init_X0_init rfl rfl rfl (hts (.initialized RX0) (by decide +kernel)) (hts (.methodLink RX3 11 yX0_init) (by decide +kernel)) (hts (.instanceMethod yX0_init) (by decide +kernel)) rfl (by decide +kernel) ⟨Nat.le_of_ble_eq_true rfl, Nat.le_of_ble_eq_true rfl⟩) (preN xA.blind (fun U hW => xA.alike hW.alike hG) hK (hP 1 _ (wl_at (by decide)))) rfl rfl hl.1 rfl (lv_room (Nat.le_of_ble_eq_true rfl)) dX3_init_9 ⟨Nat.le_of_ble_eq_true rfl, Nat.le_of_ble_eq_true rfl⟩) hP (by decide) (hD _) (fun i => by rw [adn_s (by omega), hz1]; omega) hS (hA0 _ (by decide)) (fun q hq => Or.inr (by omega)) (fun H locs hP h1 hS => ?_)
  have hz : H.size = sz + 1 + 13 := by omega
  rw [hz1] at hP
  clear h1 hz1
  refine r_putR (ad := adn a0 sz) (C := RX3) (T := TX3) (M := 4) (index := 12) (fd := "cards") (fo := "LCardMerger$Cards;") (ty := .object "CardMerger$Cards") (v := .ref (adn a0 sz 1)) hx hb hts (by decide +kernel) tyX3 tyX3_ok nmX3 hown hK hP (hD _) hS 0 (by decide) rfl rfl 0 (by decide) rfl (by decide +kernel) rfl hini (by decide +kernel) rfl rfl (Nat.le_of_ble_eq_true rfl) rfl dX3_init_12 (fun H locs hP h1 hS => ?_)
  have hz : H.size = sz + 1 + 13 := by omega
  refine lv_aload_n hx hb dX3_init_15 rfl (lv_at hl 0 rfl) ?_
  refine r_newO (ad := adn a0 sz) (C := RX1) (T := TX1) (M := 2) (ci := 1) (fs := [.null, .null]) hx hb hts (by decide +kernel) tyX1 tyX1_ok hown (hts (.classLink RX3 16 RX1) (by decide +kernel)) (hts (.instantiable RX1 2) (by decide +kernel)) (hts (.initialized RX1) (by decide +kernel)) hK hP (by rw [hz]; rfl) rfl (fun j hj => by rcases (by omega : j = 0 ∨ j = 1 ∨ j = 2 ∨ j = 3 ∨ j = 4) with rfl | rfl | rfl | rfl | rfl <;> first | rfl | omega) (Nat.le_of_ble_eq_true rfl) (Nat.le_of_ble_eq_true rfl) dX3_init_16 (fun H1 hP h1 h2 => ?_)
  have hS := vS_new hS (by omega) h2
  have hz1 : H1.size = sz + 15 := by omega
  clear h1 h2
  refine lv_dup hx hb dX3_init_19 rfl ?_
  refine k_N (N := 15 + 1) (j := 15) (K := 2) (ad := adn a0 sz) (va_runI (As := []) (rest := [.ref (adn a0 sz 15), .ref a0]) hF (c_X1_init l D cI cA (adn a0 sz 15) H1.size) (cwI 0 hts gX3_init_X1_init rfl rfl rfl (hts (.initialized RX1) (by decide +kernel)) (hts (.methodLink RX3 18 yX1_init) (by decide +kernel)) (hts (.instanceMethod yX1_init) (by decide +kernel)) rfl (by decide +kernel) ⟨Nat.le_of_ble_eq_true rfl, Nat.le_of_ble_eq_true rfl⟩) (preN (fun _ _ _ _ h => h) (fun _ _ => trivial) hK (hP 15 _ (wl_at (by decide)))) rfl rfl hl.1 rfl (lv_room (Nat.le_of_ble_eq_true rfl)) dX3_init_20 ⟨Nat.le_of_ble_eq_true rfl, Nat.le_of_ble_eq_true rfl⟩) hP (by decide) (hD _) (fun i => by rw [adn_s (by omega), hz1]; omega) hS (hA0 _ (by decide)) (fun q hq => Or.inr (by omega)) (fun H locs hP h1 hS => ?_)
  have hz : H.size = sz + 15 + 2 := by omega
  rw [hz1] at hP
  clear h1 hz1
  refine r_putR (ad := adn a0 sz) (C := RX3) (T := TX3) (M := 4) (index := 19) (fd := "links") (fo := "LCardMerger$Links;") (ty := .object "CardMerger$Links") (v := .ref (adn a0 sz 15)) hx hb hts (by decide +kernel) tyX3 tyX3_ok nmX3 hown hK hP (hD _) hS 0 (by decide) rfl rfl 1 (by decide) rfl (by decide +kernel) rfl hini (by decide +kernel) rfl rfl (Nat.le_of_ble_eq_true rfl) rfl dX3_init_23 (fun H locs hP h1 hS => ?_)
  have hz : H.size = sz + 15 + 2 := by omega
  refine lv_aload_n hx hb dX3_init_26 rfl (lv_at hl 0 rfl) ?_
  refine r_newO (ad := adn a0 sz) (C := RX2) (T := TX2) (M := 2) (ci := 2) (fs := [.null, .null]) hx hb hts (by decide +kernel) tyX2 tyX2_ok hown (hts (.classLink RX3 23 RX2) (by decide +kernel)) (hts (.instantiable RX2 2) (by decide +kernel)) (hts (.initialized RX2) (by decide +kernel)) hK hP (by rw [hz]; rfl) rfl (fun j hj => by rcases (by omega : j = 0 ∨ j = 1 ∨ j = 2 ∨ j = 3 ∨ j = 4) with rfl | rfl | rfl | rfl | rfl <;> first | rfl | omega) (Nat.le_of_ble_eq_true rfl) (Nat.le_of_ble_eq_true rfl) dX3_init_27 (fun H1 hP h1 h2 => ?_)
  have hS := vS_new hS (by omega) h2
  have hz1 : H1.size = sz + 18 := by omega
  clear h1 h2
  refine lv_dup hx hb dX3_init_30 rfl ?_
  refine k_N (N := 18 + 1) (j := 18) (K := 26) (ad := adn a0 sz) (va_runI (As := []) (rest := [.ref (adn a0 sz 18), .ref a0]) hF (c_X2_init l D cI cA (adn a0 sz 18) H1.size) (cwI 0 hts gX3_init_X2_init rfl rfl rfl (hts (.initialized RX2) (by decide +kernel)) (hts (.methodLink RX3 25 yX2_init) (by decide +kernel)) (hts (.instanceMethod yX2_init) (by decide +kernel)) rfl (by decide +kernel) ⟨Nat.le_of_ble_eq_true rfl, Nat.le_of_ble_eq_true rfl⟩) (preN xA.blind (fun U hW => xA.alike hW.alike hG) hK (hP 18 _ (wl_at (by decide)))) rfl rfl hl.1 rfl (lv_room (Nat.le_of_ble_eq_true rfl)) dX3_init_31 ⟨Nat.le_of_ble_eq_true rfl, Nat.le_of_ble_eq_true rfl⟩) hP (by decide) (hD _) (fun i => by rw [adn_s (by omega), hz1]; omega) hS (hA0 _ (by decide)) (fun q hq => Or.inr (by omega)) (fun H locs hP h1 hS => ?_)
  have hz : H.size = sz + 18 + 26 := by omega
  rw [hz1] at hP
  clear h1 hz1
  refine r_putR (ad := adn a0 sz) (C := RX3) (T := TX3) (M := 4) (index := 26) (fd := "refusals") (fo := "LCardMerger$Refusals;") (ty := .object "CardMerger$Refusals") (v := .ref (adn a0 sz 18)) hx hb hts (by decide +kernel) tyX3 tyX3_ok nmX3 hown hK hP (hD _) hS 0 (by decide) rfl rfl 2 (by decide) rfl (by decide +kernel) rfl hini (by decide +kernel) rfl rfl (Nat.le_of_ble_eq_true rfl) rfl dX3_init_34 (fun H locs hP h1 hS => ?_)
  have hz : H.size = sz + 18 + 26 := by omega
  refine lv_aload_n hx hb dX3_init_37 rfl (lv_at hl 0 rfl) ?_
  refine lv_sipush (v := nI 153) hx hb dX3_init_38 (by decide) ?_
  refine r_newI (ad := adn a0 sz) (n := 153) hx hb (hts (.arrayClass .int) (by decide +kernel)) hcI hP (by rw [hz]; rfl) (by decide) (Nat.le_of_ble_eq_true rfl) (Nat.le_of_ble_eq_true rfl) dX3_init_41 (fun H1 hP h1 h2 _ => ?_)
  have hS := vS_new hS (by omega) h2
  have hz : H1.size = sz + 45 := by omega
  clear h1 h2
  refine r_putR (ad := adn a0 sz) (C := RX3) (T := TX3) (M := 4) (index := 30) (fd := "pairsOfScore") (fo := "[I") (ty := .array .int) (v := .ref (adn a0 sz 45)) hx hb hts (by decide +kernel) tyX3 tyX3_ok nmX3 hown hK hP (hD _) hS 0 (by decide) rfl rfl 3 (by decide) rfl (by decide +kernel) rfl hini (by decide +kernel) rfl rfl (Nat.le_of_ble_eq_true rfl) rfl dX3_init_43 (fun H locs hP h1 hS => ?_)
  have hz : H.size = sz + 45 := by omega
  exact hret H locs _ _ 46 ls _ hP hz hS dX3_init_46 (fun k hk => by rcases (by omega : k = 0 ∨ k = 1 ∨ k = 2 ∨ k = 3 ∨ k = 4 ∨ k = 5 ∨ k = 6 ∨ k = 7 ∨ k = 8 ∨ k = 9 ∨ k = 10 ∨ k = 11 ∨ k = 12 ∨ k = 13 ∨ k = 14 ∨ k = 15 ∨ k = 16 ∨ k = 17 ∨ k = 18 ∨ k = 19 ∨ k = 20 ∨ k = 21 ∨ k = 22 ∨ k = 23 ∨ k = 24 ∨ k = 25 ∨ k = 26 ∨ k = 27 ∨ k = 28 ∨ k = 29 ∨ k = 30 ∨ k = 31 ∨ k = 32 ∨ k = 33 ∨ k = 34 ∨ k = 35 ∨ k = 36 ∨ k = 37 ∨ k = 38 ∨ k = 39 ∨ k = 40 ∨ k = 41 ∨ k = 42 ∨ k = 43 ∨ k = 44 ∨ k = 45) with rfl | rfl | rfl | rfl | rfl | rfl | rfl | rfl | rfl | rfl | rfl | rfl | rfl | rfl | rfl | rfl | rfl | rfl | rfl | rfl | rfl | rfl | rfl | rfl | rfl | rfl | rfl | rfl | rfl | rfl | rfl | rfl | rfl | rfl | rfl | rfl | rfl | rfl | rfl | rfl | rfl | rfl | rfl | rfl | rfl | rfl <;> rfl) (Nat.le_of_ble_eq_true rfl) (Nat.le_of_ble_eq_true rfl)
