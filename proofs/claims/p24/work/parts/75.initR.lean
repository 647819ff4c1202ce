/-! the constructor of the refusals -/
def gM (i j r : Nat) : Nat → Int32 := fun t => if r < i ∨ (r = i ∧ t < j) then (if t < 24 then -1 else nI 0) else nI 0
theorem gM_s {i j : Nat} (hj : j < 24) : upd (gM i j i) j (-1) = gM i (j + 1) i := by
  funext t
  unfold upd gM
  by_cases h : t = j
  · subst h
    rw [if_pos rfl, if_pos (Or.inr ⟨rfl, Nat.lt_succ_self _⟩), if_pos hj]
  · rw [if_neg h]
    by_cases h2 : t < j
    · rw [if_pos (Or.inr ⟨rfl, h2⟩), if_pos (Or.inr ⟨rfl, by omega⟩)]
    · rw [if_neg (fun q => q.elim (fun z => by omega) (fun z => h2 z.2)), if_neg (fun q => q.elim (fun z => by omega) (fun z => by omega))]
theorem gM_o {i j r : Nat} (hr : r ≠ i) : gM i (j + 1) r = gM i j r := by
  funext t
  unfold gM
  by_cases h : r < i
  · rw [if_pos (Or.inl h), if_pos (Or.inl h)]
  · rw [if_neg (fun q => q.elim h (fun z => hr z.1)), if_neg (fun q => q.elim h (fun z => hr z.1))]
theorem gM_row {i r : Nat} : gM i 24 r = gM (i + 1) 0 r := by
  funext t
  unfold gM
  by_cases h : r < i
  · rw [if_pos (Or.inl h), if_pos (Or.inl (by omega))]
  · by_cases h2 : r = i
    · by_cases h3 : t < 24
      · rw [if_pos (Or.inr ⟨h2, h3⟩), if_pos (Or.inl (by omega))]
      · rw [if_neg (fun q => q.elim h (fun z => h3 z.2)), if_pos (Or.inl (by omega)), if_neg h3]
    · rw [if_neg (fun q => q.elim h (fun z => h2 z.1)), if_neg (fun q => q.elim (fun z => by omega) (fun z => by omega))]
def reF (cI cA : ClassId) (a0 sz i j : Nat) : Nat → va_E := fun k => if k = 0 then .inr (2, [.ref (adn a0 sz 1), .ref (adn a0 sz 2)]) else if k = 1 then .inl (cI, 24, .inl (fun _ => nI 0)) else if k = 2 then .inl (cA, 24, .inr (.inr (.inr (.inr (fun t => some (adn a0 sz ((fun t => 3 + t) t))))))) else .inl (cI, 24, .inl (gM i j (k - 3)))
theorem reF_r {cI cA : ClassId} {a0 sz i j r : Nat} : reF cI cA a0 sz i j (3 + r) = .inl (cI, 24, .inl (gM i j r)) := by
  unfold reF
  rw [if_neg (by omega), if_neg (by omega), if_neg (by omega), show 3 + r - 3 = r by omega]
theorem reF_s {cI cA : ClassId} {a0 sz i j : Nat} (hj : j < 24) (k : Nat) : va_up (reF cI cA a0 sz i j) (3 + i) (.inl (cI, 24, .inl (upd (gM i j i) j (-1)))) k = reF cI cA a0 sz i (j + 1) k := by
  by_cases e : k = 3 + i
  · subst e
    rw [va_up_self, gM_s hj, reF_r]
  · rw [va_up_ne _ _ e]
    by_cases h : 3 ≤ k
    · obtain ⟨r, rfl⟩ : ∃ r, k = 3 + r := ⟨k - 3, by omega⟩
      rw [reF_r, reF_r, gM_o (by omega)]
    · rcases (by omega : k = 0 ∨ k = 1 ∨ k = 2) with rfl | rfl | rfl <;> rfl
theorem reF_row {cI cA : ClassId} {a0 sz i : Nat} : reF cI cA a0 sz i 24 = reF cI cA a0 sz (i + 1) 0 := by
  funext k
  unfold reF
  rw [gM_row]
set_option maxHeartbeats 4000000 in
set_option maxRecDepth 100000 in
theorem c_X2_init (l : Launch) (D : va_G) (cI cA : ClassId) (a0 sz : Nat) : Met l yX2_init wsX2_init ({ frames := 1, cells := 26, slots := 624, locals := 12 }) (va_Pc [.ref a0] (nX D [(cI, .int), (cA, .array .int)] a0 sz (.inr (2, [.null, .null])) xA)) (qN D a0 sz (reF cI cA a0 sz 24 0) 26) 26 624 (nA a0 sz) := by
  refine c_ofN (cc := cX2_init) (maxL := 3) (by decide) rfl rfl (by decide) ?_
  intro p e s m av below meth cd Q hx hb hF hini hz hP hK hG hlt hret ls hl
  have hown : s.vm.findClass RX2 = some m.cls := hF.2.2.2.1
  have hml := hF.2.2.1
  have hts := hF.2.2.2.2
  have hcI : s.vm.findClass "[I" = some cI := (hK.2 0 _ rfl).2
  have hcA : s.vm.findClass "[[I" = some cA := (hK.2 1 _ rfl).2
  have hD : ∀ N, wD (nA a0 sz) (adn a0 sz) N := fun N => adn_D hlt
  have hS : va_S (nA a0 sz) s.heap s.heap [] := va_S.rf
  obtain ⟨H, eH⟩ : ∃ H9 : Heap, H9 = s.heap := ⟨_, rfl⟩
  rw [← eH] at hP hz
  have hS : va_S (nA a0 sz) s.heap H [] := by rw [eH]; exact hS
  suffices hgo : W p l e ({ frames := 1, cells := 26, slots := 624, locals := 12 }) s m av below meth cd H [] 0 0 Q (F0 m 0 ls []) by rw [eH] at hgo; exact hgo
  have hL : ∀ i : Nat, i ≤ 24 → ∀ (H : Heap) (locs : List Loc), va_P D vwCl (wl (adn a0 sz) (reF cI cA a0 sz i 0) 27) H → H.size = sz + 26 → va_S (nA a0 sz) s.heap H locs → ∀ ls : Array Slot, lv_has ls 3 [(1, .int (nI i)), (0, .ref a0)] → W p l e ({ frames := 1, cells := 26, slots := 624, locals := 12 }) s m av below meth cd H locs 26 624 Q (F0 m 26 ls []) := by
    refine down 24 ?_ ?_
    · intro H locs hP hz hS ls hl
      refine lv_iload_n hx hb dX2_init_26 rfl (lv_at hl 0 rfl) ?_
      refine lv_bipush (v := nI 24) hx hb dX2_init_27 (by decide) ?_
      refine r_cgeN (tgt := 61) hx hb (by decide) (by decide) dX2_init_29 (by decide) (fun _ => ?_) (fun h => absurd h (by omega))
      exact hret H locs _ _ 61 ls _ hP hz hS dX2_init_61 (fun _ _ => rfl) (Nat.le_refl _) (Nat.le_refl _)
    · intro i hi ih H locs hP hz hS ls hl
      refine lv_iload_n hx hb dX2_init_26 rfl (lv_at hl 0 rfl) ?_
      refine lv_bipush (v := nI 24) hx hb dX2_init_27 (by decide) ?_
      refine r_cgeN (tgt := 61) hx hb (by omega) (by decide) dX2_init_29 (by decide) (fun h => absurd h (by omega)) (fun _ => ?_)
      have hM : ∀ j : Nat, j ≤ 24 → ∀ (H : Heap) (locs : List Loc), va_P D vwCl (wl (adn a0 sz) (reF cI cA a0 sz i j) 27) H → H.size = sz + 26 → va_S (nA a0 sz) s.heap H locs → ∀ ls : Array Slot, lv_has ls 3 [(2, .int (nI j)), (1, .int (nI i)), (0, .ref a0)] → W p l e ({ frames := 1, cells := 26, slots := 624, locals := 12 }) s m av below meth cd H locs 26 624 Q (F0 m 34 ls []) := by
        refine down 24 ?_ ?_
        · intro H locs hP hz hS ls hl
          refine lv_iload_n hx hb dX2_init_34 rfl (lv_at hl 0 rfl) ?_
          refine lv_bipush (v := nI 24) hx hb dX2_init_35 (by decide) ?_
          refine r_cgeN (tgt := 55) hx hb (by decide) (by decide) dX2_init_37 (by decide) (fun _ => ?_) (fun h => absurd h (by omega))
          refine r_iincN (k := 1) (r := i + 1) (lv' := [(1, .int (nI (i + 1))), (2, .int (nI 24)), (0, .ref a0)]) hx hb dX2_init_55 hl rfl rfl (by decide) rfl (fun ls hl => ?_)
          refine lv_goto (tgt := 26) hx hb dX2_init_58 (by decide) ?_
          rw [reF_row] at hP
          exact ih H locs hP hz hS ls (lv_sub hl [0, 2] rfl)
        · intro j hj ihj H locs hP hz hS ls hl
          refine lv_iload_n hx hb dX2_init_34 rfl (lv_at hl 0 rfl) ?_
          refine lv_bipush (v := nI 24) hx hb dX2_init_35 (by decide) ?_
          refine r_cgeN (tgt := 55) hx hb (by omega) (by decide) dX2_init_37 (by decide) (fun h => absurd h (by omega)) (fun _ => ?_)
          refine lv_aload_n hx hb dX2_init_40 rfl (lv_at hl 2 rfl) ?_
          refine r_get (ad := adn a0 sz) (C := RX2) (T := TX2) (M := 2) (index := 17) (fd := "changesThen") (fo := "[[I") hx hb hts (by decide +kernel) hown hK hP 0 (by decide) rfl rfl 1 (by decide) rfl (by decide +kernel) rfl dX2_init_41 ?_
          refine lv_iload_n hx hb dX2_init_44 rfl (lv_at hl 1 rfl) ?_
          refine r_aald (g := fun t => 3 + t) hx hb hK hP 2 1 (by decide) rfl rfl (i := i) hi (by decide) dX2_init_45 ?_
          refine lv_iload_n hx hb dX2_init_46 rfl (lv_at hl 0 rfl) ?_
          refine lv_iconst (v := -1) hx hb dX2_init_47 (by decide) ?_
          refine r_iast hx hb hK hP (hD 27) (vS_sS hS) (3 + i) 0 (by omega) reF_r rfl (i := j) hj (by decide) rfl dX2_init_48 (fun H1 locs1 hP1 hS1 => ?_)
          rw [wl_congr (fun k _ => reF_s hj k)] at hP1
          refine r_iincN (k := 0) (r := j + 1) (lv' := [(2, .int (nI (j + 1))), (1, .int (nI i)), (0, .ref a0)]) hx hb dX2_init_49 hl rfl rfl (by decide) rfl (fun ls hl => ?_)
          refine lv_goto (tgt := 34) hx hb dX2_init_52 (by decide) ?_
          exact ihj H1 locs1 hP1 (by rw [hS1.2]; exact hz) (vS_trans hS hS1.1) ls hl
      refine lv_iconst (v := nI 0) hx hb dX2_init_32 (by decide) ?_
      refine lv_istore_n (lv' := [(2, .int (nI 0)), (1, .int (nI i)), (0, .ref a0)]) hx hb dX2_init_33 rfl hl (by decide) rfl (fun ls hl => ?_)
      exact hM 0 (Nat.zero_le _) H locs hP hz hS ls hl
  refine lv_aload_n hx hb dX2_init_0 rfl (lv_at hl 0 rfl) ?_
  refine W.objInit hx hb hown (hts (.methodLink RX2 3 objectInit) (by decide +kernel)) (hts (.instanceMethod objectInit) (by decide +kernel)) (hts (.code objectInit ⟨#[0xb1]⟩ 1 none) (by decide +kernel)) rfl (by rw [hml]; exact hl.1) rfl dX2_init_1 (Nat.le_of_ble_eq_true rfl) (Nat.le_of_ble_eq_true rfl) ?_
  refine lv_aload_n hx hb dX2_init_4 rfl (lv_at hl 0 rfl) ?_
  refine lv_bipush (v := nI 24) hx hb dX2_init_5 (by decide) ?_
  refine r_newI (n := 24) hx hb (hts (.arrayClass .int) (by decide +kernel)) hcI hP (by rw [hz]; rfl) (by decide) (Nat.le_of_ble_eq_true rfl) (Nat.le_of_ble_eq_true rfl) dX2_init_7 (fun H1 hP h1 h2 _ => ?_)
  have hS := vS_new hS (by omega) h2
  have hz : H1.size = sz + 1 := by omega
  clear h1 h2
  refine r_putR (C := RX2) (T := TX2) (M := 2) (index := 9) (fd := "forGood") (fo := "[I") (ty := .array .int) (v := .ref (adn a0 sz 1)) hx hb hts (by decide +kernel) tyX2 tyX2_ok nmX2 hown hK hP (hD _) hS 0 (by decide) rfl rfl 0 (by decide) rfl (by decide +kernel) rfl hini (by decide +kernel) rfl rfl (Nat.le_of_ble_eq_true rfl) rfl dX2_init_9 (fun H locs hP h1 hS => ?_)
  have hz : H.size = sz + 1 := by omega
  refine lv_aload_n hx hb dX2_init_12 rfl (lv_at hl 0 rfl) ?_
  refine lv_bipush (v := nI 24) hx hb dX2_init_13 (by decide) ?_
  refine lv_bipush (v := nI 24) hx hb dX2_init_15 (by decide) ?_
  refine r_newA (N := 2) (n := 24) (k := 24) hx hb hown (hts (.classLink RX2 15 "[[I") (by decide +kernel)) hG (hts (.arrayClass .int) (by decide +kernel)) hcI hcA hP (fun i => by rw [adn_s (by omega), hz]; omega) (by decide) (by decide) (Nat.le_of_ble_eq_true rfl) (Nat.le_of_ble_eq_true rfl) dX2_init_17 (fun H1 hP h1 h2 => ?_)
  have hS := vS_new hS (by omega) h2
  have hz : H1.size = sz + 26 := by omega
  clear h1 h2
  refine r_putR (C := RX2) (T := TX2) (M := 2) (index := 17) (fd := "changesThen") (fo := "[[I") (ty := .array (.array .int)) (v := .ref (adn a0 sz 2)) hx hb hts (by decide +kernel) tyX2 tyX2_ok nmX2 hown hK hP (hD _) hS 0 (by decide) rfl rfl 1 (by decide) rfl (by decide +kernel) rfl hini (by decide +kernel) rfl rfl (Nat.le_of_ble_eq_true rfl) rfl dX2_init_21 (fun H locs hP h1 hS => ?_)
  have hz : H.size = sz + 26 := by omega
  refine lv_iconst (v := nI 0) hx hb dX2_init_24 (by decide) ?_
  refine lv_istore_n (lv' := [(1, .int (nI 0)), (0, .ref a0)]) hx hb dX2_init_25 rfl hl (by decide) rfl (fun ls hl => ?_)
  refine hL 0 (Nat.zero_le _) H locs ?_ hz hS ls hl
  refine (congrArg (fun w => va_P D vwCl w H) (wl_congr (fun k hk => ?_))).mp hP
  by_cases h : 3 ≤ k
  · obtain ⟨r, rfl⟩ : ∃ r, k = 3 + r := ⟨k - 3, by omega⟩
    rw [reF_r, va_up_ne _ _ (by omega)]
    unfold mnF
    rw [if_neg (by omega), if_neg (by omega)]
    refine congrArg (fun g : Nat → Int32 => (.inl (cI, 24, .inl g) : va_E)) (funext fun t => ?_)
    exact (if_neg (by omega)).symm
  · rcases (by omega : k = 0 ∨ k = 1 ∨ k = 2) with rfl | rfl | rfl <;> rfl
