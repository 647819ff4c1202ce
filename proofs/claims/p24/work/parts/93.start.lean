/-! THE LAW FROM ITS ENTRY -/
theorem lw_r1in : ∀ w ∈ wsL_law0_r1, w ∈ wsL_law := fun _ h => List.mem_append_left _ (List.mem_append_left _ (List.mem_append_left _ (List.mem_append_left _ (List.mem_append_left _ (List.mem_append_left _ (List.mem_append_left _ (List.mem_append_left _ (List.mem_append_left _ h))))))))
theorem lw_flag {l : Launch} (h : l.flags = flags0) : l.stackTraces = false := by
  unfold Launch.stackTraces
  rw [h]
  decide +kernel
set_option maxHeartbeats 4000000 in
set_option maxRecDepth 100000 in
theorem whole_start {p : Program} {e : Env} {s : State} {m : MethodId} {below : List Frame} {meth : Method} {c : Code} (l : Launch) (hflags : l.flags = flags0) {b L : Nat} {xs : Nat → Int32} (hL : L ≤ 260) (C0 : lw_At p s m meth c b L xs) : W p l e room_1 s m #[Value.ref b] below meth c s.heap [] 0 0 (lw_Z below #[Value.ref b] s) (entryFrame m ([Value.ref b] : List Value).toArray 19) := by
  obtain ⟨hx, hb, hr, hml, hown, hts0, hX, hbl, hlocks, hgv⟩ := id C0
  obtain ⟨D, cI, cA, hK, hT, hXF, hC, hA2⟩ := lw_facts C0
  have hts : ∀ w ∈ wsL_law, w.before #[Value.ref b] s = true := fun w h => hts0 w (wsL_law_in w h)
  have hown : s.vm.findClass RL = some m.cls := hown
  have hb : c.code = cL_law := hb
  have hF : CallFix p m c cL_law 19 s #[Value.ref b] wsL_law RL := ⟨hx, hb, hml, hown, hts⟩
  have T : ∀ {w : Cond} (i : Nat), wsL_law0_r1[i]? = some w → w.before #[Value.ref b] s = true := fun i h => hts _ (lw_r1in _ (List.mem_of_getElem? h))
  have hl := lv_entry ([.ref b]) (n := 19) (Nat.le_of_ble_eq_true rfl)
  rw [lg_entry_eq]
  generalize (lg_sl ([.ref b]) ++ List.replicate (19 - (lg_sl ([.ref b])).length) Slot.unset).toArray = ls at hl ⊢
  have hl : lv_has ls 19 [(0, .ref b)] := hl
  obtain ⟨sz, hsz⟩ : ∃ z : Nat, z = s.heap.size := ⟨_, rfl⟩
  have hS : va_S (fun q : Nat => s.heap.size ≤ q) s.heap s.heap [] := va_S.rf
  obtain ⟨g, hg⟩ : ∃ g : Nat → va_E, g = fun _ => .inr (0, []) := ⟨_, rfl⟩
  have hP : va_P D vwCl (wl (fun k => sz + k) g 0) s.heap := fun k q h => absurd (wl_of h).1 (Nat.not_lt_zero _)
  refine r_newO (ad := fun k => sz + k) (N := 0) (C := RX3) (T := TX3) (M := 4) (ci := 3) (fs := [.null, .null, .null, .null]) hx hb hts inlX3 tyX3 tyX3_ok hown (T 0 rfl) (T 1 rfl) (T 2 rfl) hK hP hsz.symm rfl (fun j hj => by rcases (by omega : j = 0 ∨ j = 1 ∨ j = 2 ∨ j = 3) with rfl | rfl | rfl | rfl <;> rfl) (Nat.le_of_ble_eq_true rfl) (Nat.le_of_ble_eq_true rfl) dL_law_0 (fun H1 hP h1 h2 => ?_)
  have hS := vS_new hS (by omega) h2
  have hz1 : H1.size = sz + 1 := by omega
  clear h1 h2
  refine lv_dup hx hb dL_law_3 rfl ?_
  refine k_N (N := 1) (j := 0) (K := 45) (ad := fun k => sz + k) (va_runI (As := []) (rest := [.ref (sz + 0)]) hF (c_X3_init l D cI cA (sz + 0) H1.size) (cwI 0 hts gL_law_X3_init rfl rfl rfl (T 2 rfl) (T 7 rfl) (T 8 rfl) rfl (by decide +kernel) ⟨Nat.le_of_ble_eq_true rfl, Nat.le_of_ble_eq_true rfl⟩) (preN xA.blind (fun U hW => xA.alike hW.alike hA2) hK (hP 0 _ (wl_at (by decide)))) rfl rfl hl.1 rfl (lv_room (Nat.le_of_ble_eq_true rfl)) dL_law_4 ⟨Nat.le_of_ble_eq_true rfl, Nat.le_of_ble_eq_true rfl⟩) hP (by decide) adl_D (fun i => by rw [hz1]; exact (Nat.add_assoc _ _ _).symm) hS (by show s.heap.size ≤ sz + 0; omega) (fun q hq => by show s.heap.size ≤ q; omega) (fun H locs hP h1 hS => ?_)
  have hz : H.size = sz + 46 := by omega
  rw [hz1] at hP
  clear h1 hz1
  refine lv_astore_n (lv' := [(1, .ref (sz + 0)), (0, .ref b)]) hx hb dL_law_7 rfl hl (by decide) rfl (fun ls hl => ?_)
  refine lv_bipush (v := nI 24) hx hb dL_law_8 (by decide) ?_
  refine r_newI (ad := fun k => sz + k) (N := 46) (n := 24) hx hb (T 3 rfl) (hK.2 0 _ rfl).2 hP hz (by decide) (Nat.le_of_ble_eq_true rfl) (Nat.le_of_ble_eq_true rfl) dL_law_10 (fun H1 hP h1 h2 _ => ?_)
  have hS := vS_new hS (by omega) h2
  clear h1 h2
  refine lv_astore_n (lv' := [(2, .ref (sz + 46)), (1, .ref (sz + 0)), (0, .ref b)]) hx hb dL_law_12 rfl hl (by decide) rfl (fun ls hl => ?_)
  have hP : va_P D vwCl (wl (fun k => sz + k) (lwF cI cA sz g (.inr (3, [.null, .null, .null, .null]))) 47) H1 := hP
  have hPo := start_o hP (fun k hk => lwF_o hk) lwF_46
  have C1 : lwC p l s m c b L xs D cI cA (adC sz) := ⟨hx, hb, hF, hK, ⟨fun i j hi hj q => pm_inj i hi j hj (Nat.add_left_cancel q), fun k _ => by show s.heap.size ≤ sz + pm k; omega⟩, hT, hXF, hC, lw_flag hflags, hX, hbl, hL⟩
  refine law_first C1 (fun H locs cells slots ls hS h1 h2 hl => ?_) hPo hS (Nat.le_of_ble_eq_true rfl) (Nat.le_of_ble_eq_true rfl) (lv_sub hl [0, 1, 2] rfl)
  refine lv_iload_n hx hb dL_law_1274 rfl (lv_at hl 0 rfl) ?_
  refine va_forget (fun q hq => hS.2.2 q hq) ?_
  exact W.widen (k := 600104) (n := 7301314) h1 h2 (lw_ret hx hb hr hlocks dL_law_1275)
