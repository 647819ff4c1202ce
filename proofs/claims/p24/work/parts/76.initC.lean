/-! the constructor of the cards -/
def caF (cI cA : ClassId) (a0 sz : Nat) : Nat → va_E := fun k => if k = 0 then .inr (0, [.ref (adn a0 sz 1), .ref (adn a0 sz 2), .ref (adn a0 sz 6), .ref (adn a0 sz 13), .int (nI 0)]) else if k = 2 then .inl (cA, 3, .inr (.inr (.inr (.inr (fun t => some (adn a0 sz (2 + 1 + t))))))) else if k = 6 then .inl (cA, 6, .inr (.inr (.inr (.inr (fun t => some (adn a0 sz (6 + 1 + t))))))) else .inl (cI, 24, .inl (fun _ => nI 0))
set_option maxHeartbeats 4000000 in
set_option maxRecDepth 100000 in
theorem c_X0_init (l : Launch) (D : va_G) (cI cA : ClassId) (a0 sz : Nat) : Met l yX0_init wsX0_init ({ frames := 1, cells := 13, slots := 273, locals := 12 }) (va_Pc [.ref a0] (nX D [(cI, .int), (cA, .array .int)] a0 sz (.inr (0, [.null, .null, .null, .null, .int 0])) xA)) (qN D a0 sz (caF cI cA a0 sz) 13) 13 273 (nA a0 sz) := by
  refine c_ofN (cc := cX0_init) (maxL := 1) (by decide) rfl rfl (by decide) ?_
  intro p e s m av below meth cd Q hx hb hF hini hz hP hK hG hlt hret ls hl
  have hown : s.vm.findClass RX0 = some m.cls := hF.2.2.2.1
  have hml := hF.2.2.1
  have hts := hF.2.2.2.2
  have hcI : s.vm.findClass "[I" = some cI := (hK.2 0 _ rfl).2
  have hcA : s.vm.findClass "[[I" = some cA := (hK.2 1 _ rfl).2
  have hD : ∀ N, wD (nA a0 sz) (adn a0 sz) N := fun N => adn_D hlt
  have hS : va_S (nA a0 sz) s.heap s.heap [] := va_S.rf
  obtain ⟨H, eH⟩ : ∃ H9 : Heap, H9 = s.heap := ⟨_, rfl⟩
  rw [← eH] at hP hz
  have hS : va_S (nA a0 sz) s.heap H [] := by rw [eH]; exact hS
  suffices hgo : W p l e ({ frames := 1, cells := 13, slots := 273, locals := 12 }) s m av below meth cd H [] 0 0 Q (F0 m 0 ls []) by rw [eH] at hgo; exact hgo
  refine lv_aload_n hx hb dX0_init_0 rfl (lv_at hl 0 rfl) ?_
  refine W.objInit hx hb hown (hts (.methodLink RX0 3 objectInit) (by decide +kernel)) (hts (.instanceMethod objectInit) (by decide +kernel)) (hts (.code objectInit ⟨#[0xb1]⟩ 1 none) (by decide +kernel)) rfl (by rw [hml]; exact hl.1) rfl dX0_init_1 (Nat.le_of_ble_eq_true rfl) (Nat.le_of_ble_eq_true rfl) ?_
  refine lv_aload_n hx hb dX0_init_4 rfl (lv_at hl 0 rfl) ?_
  refine lv_bipush (v := nI 24) hx hb dX0_init_5 (by decide) ?_
  refine r_newI (n := 24) hx hb (hts (.arrayClass .int) (by decide +kernel)) hcI hP (by rw [hz]; rfl) (by decide) (Nat.le_of_ble_eq_true rfl) (Nat.le_of_ble_eq_true rfl) dX0_init_7 (fun H1 hP h1 h2 _ => ?_)
  have hS := vS_new hS (by omega) h2
  have hz : H1.size = sz + 1 := by omega
  clear h1 h2
  refine r_putR (C := RX0) (T := TX0) (M := 5) (index := 9) (fd := "books") (fo := "[I") (ty := .array .int) (v := .ref (adn a0 sz 1)) hx hb hts (by decide +kernel) tyX0 tyX0_ok nmX0 hown hK hP (hD _) hS 0 (by decide) rfl rfl 0 (by decide) rfl (by decide +kernel) rfl hini (by decide +kernel) rfl rfl (Nat.le_of_ble_eq_true rfl) rfl dX0_init_9 (fun H locs hP h1 hS => ?_)
  have hz : H.size = sz + 1 := by omega
  refine lv_aload_n hx hb dX0_init_12 rfl (lv_at hl 0 rfl) ?_
  refine lv_iconst (v := nI 3) hx hb dX0_init_13 (by decide) ?_
  refine lv_bipush (v := nI 24) hx hb dX0_init_14 (by decide) ?_
  refine r_newA (N := 2) (n := 3) (k := 24) hx hb hown (hts (.classLink RX0 15 "[[I") (by decide +kernel)) hG (hts (.arrayClass .int) (by decide +kernel)) hcI hcA hP (fun i => by rw [adn_s (by omega), hz]; omega) (by decide) (by decide) (Nat.le_of_ble_eq_true rfl) (Nat.le_of_ble_eq_true rfl) dX0_init_16 (fun H1 hP h1 h2 => ?_)
  have hS := vS_new hS (by omega) h2
  have hz : H1.size = sz + 5 := by omega
  clear h1 h2
  refine r_putR (C := RX0) (T := TX0) (M := 5) (index := 17) (fd := "names") (fo := "[[I") (ty := .array (.array .int)) (v := .ref (adn a0 sz 2)) hx hb hts (by decide +kernel) tyX0 tyX0_ok nmX0 hown hK hP (hD _) hS 0 (by decide) rfl rfl 1 (by decide) rfl (by decide +kernel) rfl hini (by decide +kernel) rfl rfl (Nat.le_of_ble_eq_true rfl) rfl dX0_init_20 (fun H locs hP h1 hS => ?_)
  have hz : H.size = sz + 5 := by omega
  refine lv_aload_n hx hb dX0_init_23 rfl (lv_at hl 0 rfl) ?_
  refine lv_bipush (v := nI 6) hx hb dX0_init_24 (by decide) ?_
  refine lv_bipush (v := nI 24) hx hb dX0_init_26 (by decide) ?_
  refine r_newA (N := 6) (n := 6) (k := 24) hx hb hown (hts (.classLink RX0 15 "[[I") (by decide +kernel)) hG (hts (.arrayClass .int) (by decide +kernel)) hcI hcA hP (fun i => by rw [adn_s (by omega), hz]; omega) (by decide) (by decide) (Nat.le_of_ble_eq_true rfl) (Nat.le_of_ble_eq_true rfl) dX0_init_28 (fun H1 hP h1 h2 => ?_)
  have hS := vS_new hS (by omega) h2
  have hz : H1.size = sz + 12 := by omega
  clear h1 h2
  refine r_putR (C := RX0) (T := TX0) (M := 5) (index := 20) (fd := "sets") (fo := "[[I") (ty := .array (.array .int)) (v := .ref (adn a0 sz 6)) hx hb hts (by decide +kernel) tyX0 tyX0_ok nmX0 hown hK hP (hD _) hS 0 (by decide) rfl rfl 2 (by decide) rfl (by decide +kernel) rfl hini (by decide +kernel) rfl rfl (Nat.le_of_ble_eq_true rfl) rfl dX0_init_32 (fun H locs hP h1 hS => ?_)
  have hz : H.size = sz + 12 := by omega
  refine lv_aload_n hx hb dX0_init_35 rfl (lv_at hl 0 rfl) ?_
  refine lv_bipush (v := nI 24) hx hb dX0_init_36 (by decide) ?_
  refine r_newI (n := 24) hx hb (hts (.arrayClass .int) (by decide +kernel)) hcI hP (by rw [hz]; rfl) (by decide) (Nat.le_of_ble_eq_true rfl) (Nat.le_of_ble_eq_true rfl) dX0_init_38 (fun H1 hP h1 h2 _ => ?_)
  have hS := vS_new hS (by omega) h2
  have hz : H1.size = sz + 13 := by omega
  clear h1 h2
  refine r_putR (C := RX0) (T := TX0) (M := 5) (index := 23) (fd := "mineChanges") (fo := "[I") (ty := .array .int) (v := .ref (adn a0 sz 13)) hx hb hts (by decide +kernel) tyX0 tyX0_ok nmX0 hown hK hP (hD _) hS 0 (by decide) rfl rfl 3 (by decide) rfl (by decide +kernel) rfl hini (by decide +kernel) rfl rfl (Nat.le_of_ble_eq_true rfl) rfl dX0_init_40 (fun H locs hP h1 hS => ?_)
  have hz : H.size = sz + 13 := by omega
  refine lv_aload_n hx hb dX0_init_43 rfl (lv_at hl 0 rfl) ?_
  refine lv_iconst (v := nI 0) hx hb dX0_init_44 (by decide) ?_
  refine r_put (ad := adn a0 sz) (C := RX0) (T := TX0) (M := 5) (index := 26) (fd := "count") hx hb hts (by decide +kernel) tyX0 tyX0_ok nmX0 hown hK hP (hD _) (vS_sS hS) 0 (by decide) rfl rfl 4 (by decide) rfl (by decide +kernel) (Nat.le_of_ble_eq_true rfl) rfl dX0_init_45 (fun H1 locs1 hP1 hS1 => ?_)
  exact hret H1 locs1 _ _ 48 ls _ hP1 (by rw [hS1.2]; exact hz) (vS_trans hS hS1.1) dX0_init_48 (fun k hk => by rcases (by omega : k = 0 ∨ k = 1 ∨ k = 2 ∨ k = 3 ∨ k = 4 ∨ k = 5 ∨ k = 6 ∨ k = 7 ∨ k = 8 ∨ k = 9 ∨ k = 10 ∨ k = 11 ∨ k = 12 ∨ k = 13) with rfl | rfl | rfl | rfl | rfl | rfl | rfl | rfl | rfl | rfl | rfl | rfl | rfl | rfl <;> rfl) (Nat.le_of_ble_eq_true rfl) (Nat.le_of_ble_eq_true rfl)
