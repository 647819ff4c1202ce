/-! the constructor of the links -/
def gI0 (i : Nat) : Nat → Int32 := fun j => if j < i then bit j else nI 0
theorem gI0_s {i : Nat} : upd (gI0 i) i (bit i) = gI0 (i + 1) := by
  funext j
  unfold upd gI0
  by_cases h : j = i
  · subst h
    simp
  · by_cases h2 : j < i
    · simp [h, h2, Nat.lt_succ_of_lt h2]
    · simp [h, h2, show ¬ j < i + 1 by omega]
def liF (cI : ClassId) (a0 sz i : Nat) : Nat → va_E := fun k => if k = 0 then .inr (1, [.ref (adn a0 sz 1), .ref (adn a0 sz 2)]) else if k = 1 then .inl (cI, 24, .inl (fun _ => nI 0)) else .inl (cI, 24, .inl (gI0 i))
theorem liF_s {cI : ClassId} {a0 sz i : Nat} (k : Nat) (hk : k < 3) : va_up (liF cI a0 sz i) 2 (.inl (cI, 24, .inl (upd (gI0 i) i (bit i)))) k = liF cI a0 sz (i + 1) k := by
  rw [gI0_s]
  rcases (by omega : k = 0 ∨ k = 1 ∨ k = 2) with rfl | rfl | rfl <;> rfl
set_option maxHeartbeats 4000000 in
set_option maxRecDepth 100000 in
theorem c_X1_init (l : Launch) (D : va_G) (cI cA : ClassId) (a0 sz : Nat) : Met l yX1_init wsX1_init ({ frames := 1, cells := 2, slots := 48, locals := 12 }) (va_Pc [.ref a0] (nX D [(cI, .int), (cA, .array .int)] a0 sz (.inr (1, [.null, .null])) (fun _ => True))) (qN D a0 sz (liF cI a0 sz 24) 2) 2 48 (nA a0 sz) := by
  refine c_ofN (cc := cX1_init) (maxL := 2) (by decide) rfl rfl (by decide) ?_
  intro p e s m av below meth cd Q hx hb hF hini hz hP hK hG hlt hret ls hl
  have hown : s.vm.findClass RX1 = some m.cls := hF.2.2.2.1
  have hml := hF.2.2.1
  have hts := hF.2.2.2.2
  have hcI : s.vm.findClass "[I" = some cI := (hK.2 0 _ rfl).2
  have hD : ∀ N, wD (nA a0 sz) (adn a0 sz) N := fun N => adn_D hlt
  have hS : va_S (nA a0 sz) s.heap s.heap [] := va_S.rf
  obtain ⟨H, eH⟩ : ∃ H9 : Heap, H9 = s.heap := ⟨_, rfl⟩
  rw [← eH] at hP hz
  have hS : va_S (nA a0 sz) s.heap H [] := by rw [eH]; exact hS
  suffices hgo : W p l e ({ frames := 1, cells := 2, slots := 48, locals := 12 }) s m av below meth cd H [] 0 0 Q (F0 m 0 ls []) by rw [eH] at hgo; exact hgo
  have hL : ∀ i : Nat, i ≤ 24 → ∀ (H : Heap) (locs : List Loc), va_P D vwCl (wl (adn a0 sz) (liF cI a0 sz i) 3) H → H.size = sz + 2 → va_S (nA a0 sz) s.heap H locs → ∀ ls : Array Slot, lv_has ls 2 [(1, .int (nI i)), (0, .ref a0)] → W p l e ({ frames := 1, cells := 2, slots := 48, locals := 12 }) s m av below meth cd H locs 2 48 Q (F0 m 22 ls []) := by
    refine down 24 ?_ ?_
    · intro H locs hP hz hS ls hl
      refine lv_iload_n hx hb dX1_init_22 rfl (lv_at hl 0 rfl) ?_
      refine lv_bipush (v := nI 24) hx hb dX1_init_23 (by decide) ?_
      refine r_cgeN (tgt := 43) hx hb (by decide) (by decide) dX1_init_25 (by decide) (fun _ => ?_) (fun h => absurd h (by omega))
      exact hret H locs _ _ 43 ls _ hP hz hS dX1_init_43 (fun _ _ => rfl) (Nat.le_refl _) (Nat.le_refl _)
    · intro i hi ih H locs hP hz hS ls hl
      refine lv_iload_n hx hb dX1_init_22 rfl (lv_at hl 0 rfl) ?_
      refine lv_bipush (v := nI 24) hx hb dX1_init_23 (by decide) ?_
      refine r_cgeN (tgt := 43) hx hb (by omega) (by decide) dX1_init_25 (by decide) (fun h => absurd h (by omega)) (fun _ => ?_)
      refine lv_aload_n hx hb dX1_init_28 rfl (lv_at hl 1 rfl) ?_
      refine r_get (ad := adn a0 sz) (C := RX1) (T := TX1) (M := 2) (index := 15) (fd := "groups") (fo := "[I") hx hb hts (by decide +kernel) hown hK hP 0 (by decide) rfl rfl 1 (by decide) rfl (by decide +kernel) rfl dX1_init_29 ?_
      refine lv_iload_n hx hb dX1_init_32 rfl (lv_at hl 0 rfl) ?_
      refine lv_iconst (v := nI 1) hx hb dX1_init_33 (by decide) ?_
      refine lv_iload_n hx hb dX1_init_34 rfl (lv_at hl 0 rfl) ?_
      refine r_bit hx hb dX1_init_35 ?_
      refine r_iast hx hb hK hP (hD 3) (vS_sS hS) 2 0 (by decide) rfl rfl (i := i) hi (by decide) rfl dX1_init_36 (fun H1 locs1 hP1 hS1 => ?_)
      rw [wl_congr liF_s] at hP1
      refine r_iincN (k := 0) (r := i + 1) (lv' := [(1, .int (nI (i + 1))), (0, .ref a0)]) hx hb dX1_init_37 hl rfl rfl (by decide) rfl (fun ls hl => ?_)
      refine lv_goto (tgt := 22) hx hb dX1_init_40 (by decide) ?_
      exact ih H1 locs1 hP1 (by rw [hS1.2]; exact hz) (vS_trans hS hS1.1) ls hl
  refine lv_aload_n hx hb dX1_init_0 rfl (lv_at hl 0 rfl) ?_
  refine W.objInit hx hb hown (hts (.methodLink RX1 3 objectInit) (by decide +kernel)) (hts (.instanceMethod objectInit) (by decide +kernel)) (hts (.code objectInit ⟨#[0xb1]⟩ 1 none) (by decide +kernel)) rfl (by rw [hml]; exact hl.1) rfl dX1_init_1 (Nat.le_of_ble_eq_true rfl) (Nat.le_of_ble_eq_true rfl) ?_
  refine lv_aload_n hx hb dX1_init_4 rfl (lv_at hl 0 rfl) ?_
  refine lv_bipush (v := nI 24) hx hb dX1_init_5 (by decide) ?_
  refine r_newI (n := 24) hx hb (hts (.arrayClass .int) (by decide +kernel)) hcI hP (by rw [hz]; rfl) (by decide) (Nat.le_of_ble_eq_true rfl) (Nat.le_of_ble_eq_true rfl) dX1_init_7 (fun H1 hP h1 h2 _ => ?_)
  have hS := vS_new hS (by omega) h2
  have hz : H1.size = sz + 1 := by omega
  clear h1 h2
  refine r_putR (C := RX1) (T := TX1) (M := 2) (index := 9) (fd := "linked") (fo := "[I") (ty := .array .int) (v := .ref (adn a0 sz 1)) hx hb hts (by decide +kernel) tyX1 tyX1_ok nmX1 hown hK hP (hD _) hS 0 (by decide) rfl rfl 0 (by decide) rfl (by decide +kernel) rfl hini (by decide +kernel) rfl rfl (Nat.le_of_ble_eq_true rfl) rfl dX1_init_9 (fun H locs hP h1 hS => ?_)
  have hz : H.size = sz + 1 := by omega
  refine lv_aload_n hx hb dX1_init_12 rfl (lv_at hl 0 rfl) ?_
  refine lv_bipush (v := nI 24) hx hb dX1_init_13 (by decide) ?_
  refine r_newI (n := 24) hx hb (hts (.arrayClass .int) (by decide +kernel)) hcI hP (by rw [hz]; rfl) (by decide) (Nat.le_of_ble_eq_true rfl) (Nat.le_of_ble_eq_true rfl) dX1_init_15 (fun H1 hP h1 h2 _ => ?_)
  have hS := vS_new hS (by omega) h2
  have hz : H1.size = sz + 2 := by omega
  clear h1 h2
  refine r_putR (C := RX1) (T := TX1) (M := 2) (index := 15) (fd := "groups") (fo := "[I") (ty := .array .int) (v := .ref (adn a0 sz 2)) hx hb hts (by decide +kernel) tyX1 tyX1_ok nmX1 hown hK hP (hD _) hS 0 (by decide) rfl rfl 1 (by decide) rfl (by decide +kernel) rfl hini (by decide +kernel) rfl rfl (Nat.le_of_ble_eq_true rfl) rfl dX1_init_17 (fun H locs hP h1 hS => ?_)
  have hz : H.size = sz + 2 := by omega
  refine lv_iconst (v := nI 0) hx hb dX1_init_20 (by decide) ?_
  refine lv_istore_n (lv' := [(1, .int (nI 0)), (0, .ref a0)]) hx hb dX1_init_21 rfl hl (by decide) rfl (fun ls hl => ?_)
  refine hL 0 (Nat.zero_le _) H locs ?_ hz hS ls hl
  refine (congrArg (fun w => va_P D vwCl w H) (wl_congr (fun k hk => ?_))).mp hP
  rcases (by omega : k = 0 ∨ k = 1 ∨ k = 2) with rfl | rfl | rfl
  · rfl
  · rfl
  · refine congrArg (fun g : Nat → Int32 => (.inl (cI, 24, .inl g) : va_E)) (funext fun j => ?_)
    exact (if_neg (Nat.not_lt_zero _)).symm
