set_option maxHeartbeats 4000000 in
set_option maxRecDepth 100000 in
theorem c_X4_init (l : Launch) (D : va_G) (cI cA : ClassId) (a0 sz : Nat) : Met l yX4_init wsX4_init ({ frames := 1, cells := 7, slots := 888, locals := 12 }) (va_Pc [.ref a0] (nX D [(cI, .int), (cA, .array .int)] a0 sz (.inr (4, [.int 0, .null, .null, .null, .null, .null, .null, .int 0, .null])) (fun _ => True))) (qN D a0 sz (mF cI (adn a0 sz) (nI 0) 0 y0) 7) 7 888 (nA a0 sz) := by
  refine c_ofN (cc := cX4_init) (maxL := 1) (by decide) rfl rfl (by decide) ?_
  intro p e s m av below meth cd Q hx hb hF hini hz hP hK hG hlt hret ls hl
  have hown : s.vm.findClass RX4 = some m.cls := hF.2.2.2.1
  have hml := hF.2.2.1
  have hts := hF.2.2.2.2
  have hcI : s.vm.findClass "[I" = some cI := (hK.2 0 _ rfl).2
  have hD : ∀ N, wD (nA a0 sz) (adn a0 sz) N := fun N => adn_D hlt
  have hS : va_S (nA a0 sz) s.heap s.heap [] := va_S.rf
  obtain ⟨H, eH⟩ : ∃ H9 : Heap, H9 = s.heap := ⟨_, rfl⟩
  rw [← eH] at hP hz
  have hS : va_S (nA a0 sz) s.heap H [] := by rw [eH]; exact hS
  suffices hgo : W p l e ({ frames := 1, cells := 7, slots := 888, locals := 12 }) s m av below meth cd H [] 0 0 Q (F0 m 0 ls []) by rw [eH] at hgo; exact hgo
  refine lv_aload_n hx hb dX4_init_0 rfl (lv_at hl 0 rfl) ?_
  refine W.objInit hx hb hown (hts (.methodLink RX4 1 objectInit) (by decide +kernel)) (hts (.instanceMethod objectInit) (by decide +kernel)) (hts (.code objectInit ⟨#[0xb1]⟩ 1 none) (by decide +kernel)) rfl (by rw [hml]; exact hl.1) rfl dX4_init_1 (Nat.le_of_ble_eq_true rfl) (Nat.le_of_ble_eq_true rfl) ?_
  refine lv_aload_n hx hb dX4_init_4 rfl (lv_at hl 0 rfl) ?_
  refine lv_bipush (v := nI 24) hx hb dX4_init_5 (by decide) ?_
  refine r_newI (n := 24) hx hb (hts (.arrayClass .int) (by decide +kernel)) hcI hP (by rw [hz]; rfl) (by decide) (Nat.le_of_ble_eq_true rfl) (Nat.le_of_ble_eq_true rfl) dX4_init_7 (fun H1 hP h1 h2 _ => ?_)
  have hS := vS_new hS (by omega) h2
  have hz : H1.size = sz + 1 := by omega
  clear h1 h2
  refine r_putR (C := RX4) (T := TX4) (M := 9) (index := 7) (fd := "book") (fo := "[I") (ty := .array .int) (v := .ref (adn a0 sz 1)) hx hb hts (by decide +kernel) tyX4 tyX4_ok nmX4 hown hK hP (hD _) hS 0 (by decide) rfl rfl 1 (by decide) rfl (by decide +kernel) rfl hini (by decide +kernel) rfl rfl (Nat.le_of_ble_eq_true rfl) rfl dX4_init_9 (fun H locs hP h1 hS => ?_)
  have hz : H.size = sz + 1 := by omega
  refine lv_aload_n hx hb dX4_init_12 rfl (lv_at hl 0 rfl) ?_
  refine lv_bipush (v := nI 72) hx hb dX4_init_13 (by decide) ?_
  refine r_newI (n := 72) hx hb (hts (.arrayClass .int) (by decide +kernel)) hcI hP (by rw [hz]; rfl) (by decide) (Nat.le_of_ble_eq_true rfl) (Nat.le_of_ble_eq_true rfl) dX4_init_15 (fun H1 hP h1 h2 _ => ?_)
  have hS := vS_new hS (by omega) h2
  have hz : H1.size = sz + 2 := by omega
  clear h1 h2
  refine r_putR (C := RX4) (T := TX4) (M := 9) (index := 13) (fd := "name") (fo := "[I") (ty := .array .int) (v := .ref (adn a0 sz 2)) hx hb hts (by decide +kernel) tyX4 tyX4_ok nmX4 hown hK hP (hD _) hS 0 (by decide) rfl rfl 2 (by decide) rfl (by decide +kernel) rfl hini (by decide +kernel) rfl rfl (Nat.le_of_ble_eq_true rfl) rfl dX4_init_17 (fun H locs hP h1 hS => ?_)
  have hz : H.size = sz + 2 := by omega
  refine lv_aload_n hx hb dX4_init_20 rfl (lv_at hl 0 rfl) ?_
  refine lv_sipush (v := nI 144) hx hb dX4_init_21 (by decide) ?_
  refine r_newI (n := 144) hx hb (hts (.arrayClass .int) (by decide +kernel)) hcI hP (by rw [hz]; rfl) (by decide) (Nat.le_of_ble_eq_true rfl) (Nat.le_of_ble_eq_true rfl) dX4_init_24 (fun H1 hP h1 h2 _ => ?_)
  have hS := vS_new hS (by omega) h2
  have hz : H1.size = sz + 3 := by omega
  clear h1 h2
  refine r_putR (C := RX4) (T := TX4) (M := 9) (index := 16) (fd := "set") (fo := "[I") (ty := .array .int) (v := .ref (adn a0 sz 3)) hx hb hts (by decide +kernel) tyX4 tyX4_ok nmX4 hown hK hP (hD _) hS 0 (by decide) rfl rfl 3 (by decide) rfl (by decide +kernel) rfl hini (by decide +kernel) rfl rfl (Nat.le_of_ble_eq_true rfl) rfl dX4_init_26 (fun H locs hP h1 hS => ?_)
  have hz : H.size = sz + 3 := by omega
  refine lv_aload_n hx hb dX4_init_29 rfl (lv_at hl 0 rfl) ?_
  refine lv_bipush (v := nI 24) hx hb dX4_init_30 (by decide) ?_
  refine r_newI (n := 24) hx hb (hts (.arrayClass .int) (by decide +kernel)) hcI hP (by rw [hz]; rfl) (by decide) (Nat.le_of_ble_eq_true rfl) (Nat.le_of_ble_eq_true rfl) dX4_init_32 (fun H1 hP h1 h2 _ => ?_)
  have hS := vS_new hS (by omega) h2
  have hz : H1.size = sz + 4 := by omega
  clear h1 h2
  refine r_putR (C := RX4) (T := TX4) (M := 9) (index := 19) (fd := "links") (fo := "[I") (ty := .array .int) (v := .ref (adn a0 sz 4)) hx hb hts (by decide +kernel) tyX4 tyX4_ok nmX4 hown hK hP (hD _) hS 0 (by decide) rfl rfl 4 (by decide) rfl (by decide +kernel) rfl hini (by decide +kernel) rfl rfl (Nat.le_of_ble_eq_true rfl) rfl dX4_init_34 (fun H locs hP h1 hS => ?_)
  have hz : H.size = sz + 4 := by omega
  refine lv_aload_n hx hb dX4_init_37 rfl (lv_at hl 0 rfl) ?_
  refine lv_bipush (v := nI 24) hx hb dX4_init_38 (by decide) ?_
  refine r_newI (n := 24) hx hb (hts (.arrayClass .int) (by decide +kernel)) hcI hP (by rw [hz]; rfl) (by decide) (Nat.le_of_ble_eq_true rfl) (Nat.le_of_ble_eq_true rfl) dX4_init_40 (fun H1 hP h1 h2 _ => ?_)
  have hS := vS_new hS (by omega) h2
  have hz : H1.size = sz + 5 := by omega
  clear h1 h2
  refine r_putR (C := RX4) (T := TX4) (M := 9) (index := 22) (fd := "good") (fo := "[I") (ty := .array .int) (v := .ref (adn a0 sz 5)) hx hb hts (by decide +kernel) tyX4 tyX4_ok nmX4 hown hK hP (hD _) hS 0 (by decide) rfl rfl 5 (by decide) rfl (by decide +kernel) rfl hini (by decide +kernel) rfl rfl (Nat.le_of_ble_eq_true rfl) rfl dX4_init_42 (fun H locs hP h1 hS => ?_)
  have hz : H.size = sz + 5 := by omega
  refine lv_aload_n hx hb dX4_init_45 rfl (lv_at hl 0 rfl) ?_
  refine lv_bipush (v := nI 24) hx hb dX4_init_46 (by decide) ?_
  refine r_newI (n := 24) hx hb (hts (.arrayClass .int) (by decide +kernel)) hcI hP (by rw [hz]; rfl) (by decide) (Nat.le_of_ble_eq_true rfl) (Nat.le_of_ble_eq_true rfl) dX4_init_48 (fun H1 hP h1 h2 _ => ?_)
  have hS := vS_new hS (by omega) h2
  have hz : H1.size = sz + 6 := by omega
  clear h1 h2
  refine r_putR (C := RX4) (T := TX4) (M := 9) (index := 25) (fd := "forNow") (fo := "[I") (ty := .array .int) (v := .ref (adn a0 sz 6)) hx hb hts (by decide +kernel) tyX4 tyX4_ok nmX4 hown hK hP (hD _) hS 0 (by decide) rfl rfl 6 (by decide) rfl (by decide +kernel) rfl hini (by decide +kernel) rfl rfl (Nat.le_of_ble_eq_true rfl) rfl dX4_init_50 (fun H locs hP h1 hS => ?_)
  have hz : H.size = sz + 6 := by omega
  refine lv_aload_n hx hb dX4_init_53 rfl (lv_at hl 0 rfl) ?_
  refine lv_sipush (v := nI 576) hx hb dX4_init_54 (by decide) ?_
  refine r_newI (n := 576) hx hb (hts (.arrayClass .int) (by decide +kernel)) hcI hP (by rw [hz]; rfl) (by decide) (Nat.le_of_ble_eq_true rfl) (Nat.le_of_ble_eq_true rfl) dX4_init_57 (fun H1 hP h1 h2 _ => ?_)
  have hS := vS_new hS (by omega) h2
  have hz : H1.size = sz + 7 := by omega
  clear h1 h2
  refine r_putR (C := RX4) (T := TX4) (M := 9) (index := 28) (fd := "scores") (fo := "[I") (ty := .array .int) (v := .ref (adn a0 sz 7)) hx hb hts (by decide +kernel) tyX4 tyX4_ok nmX4 hown hK hP (hD _) hS 0 (by decide) rfl rfl 8 (by decide) rfl (by decide +kernel) rfl hini (by decide +kernel) rfl rfl (Nat.le_of_ble_eq_true rfl) rfl dX4_init_59 (fun H locs hP h1 hS => ?_)
  have hz : H.size = sz + 7 := by omega
  exact hret H locs _ _ 62 ls _ hP hz hS dX4_init_62 (fun k hk => by rcases (by omega : k = 0 ∨ k = 1 ∨ k = 2 ∨ k = 3 ∨ k = 4 ∨ k = 5 ∨ k = 6 ∨ k = 7) with rfl | rfl | rfl | rfl | rfl | rfl | rfl | rfl <;> rfl) (Nat.le_of_ble_eq_true rfl) (Nat.le_of_ble_eq_true rfl)
