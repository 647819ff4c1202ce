/-! each operation out of its cases -/
theorem cardE {n : Nat} {a : Int32} (hn : n ≤ 24) : cardB n a = false ∨ ∃ c, c < n ∧ a = nI c := by
  by_cases h : cardB n a = true
  · right
    unfold cardB at h
    simp only [Bool.and_eq_true, decide_eq_true_eq] at h
    obtain ⟨j, hj, rfl⟩ := nI_of h.1
    exact ⟨j, (nI_ltI hj (by omega)).mp h.2, rfl⟩
  · left
    exact Bool.eq_false_iff.mpr h
theorem kindE {a : Int32} (h : kindB a = true) : ∃ k, k < 2 ∧ a = nI k := by
  unfold kindB at h
  simp only [Bool.or_eq_true, decide_eq_true_eq] at h
  rcases h with h | h
  · exact ⟨0, by decide, h.trans nI_0.symm⟩
  · exact ⟨1, by decide, h⟩
theorem chgE {a : Int32} (h : chgB a = true) : ∃ k, k < 2 ∧ a = nI k := by
  unfold chgB at h
  simp only [Bool.or_eq_true, decide_eq_true_eq] at h
  rcases h with h | h
  · exact ⟨0, by decide, h.trans nI_0.symm⟩
  · exact ⟨1, by decide, h⟩
theorem verE {a : Int32} (h : verB a = true) : ∃ k, k < 3 ∧ a = nI k := by
  unfold verB at h
  simp only [Bool.or_eq_true, decide_eq_true_eq] at h
  rcases h with h | h
  · obtain ⟨k, hk, e⟩ := chgE h
    exact ⟨k, by omega, e⟩
  · exact ⟨2, by decide, h⟩
theorem valueE {a : Int32} (h : valueB a = true) : ∃ k, k < 30 ∧ a = nI k := by
  unfold valueB at h
  simp only [Bool.and_eq_true, decide_eq_true_eq] at h
  obtain ⟨j, hj, rfl⟩ := nI_of h.1
  refine ⟨j, ?_, rfl⟩
  have : ¬ 30 ≤ j := fun q => h.2 ((nI_leI (by decide) hj).mpr q)
  omega
theorem boolE (b : Bool) : b = true ∨ b = false := by cases b <;> simp
theorem and31 (a : Int32) : ∃ t, t < 32 ∧ a &&& nI 31 = nI t := by
  rw [Int32.and_comm]
  obtain ⟨N, h1, h2⟩ := fit30_sub (a := nI 31) (b := a) ⟨31, by decide, rfl⟩
  have e : nI 31 &&& (nI 31 &&& a) = nI 31 &&& a := by rw [← Int32.and_assoc, Int32.and_self]
  rw [h2, nI_andN, nI_eq (Nat.lt_of_le_of_lt Nat.and_le_left (by decide)) (by omega)] at e
  have := Nat.and_le_left (n := 31) (m := N)
  exact ⟨N, by omega, h2⟩
theorem cmp5 {L t : Nat} (hL : L ≤ 2560) (ht : t ≤ 2560) (h : ¬ nI L - nI 5 < nI t) : t + 5 ≤ L := by
  by_cases q : 5 ≤ L
  · rw [show nI L - nI 5 = nI (L - 5) from (Int32.ofNat_sub _ _ q).symm, nI_ltI (by omega) (by omega)] at h
    omega
  · exfalso
    refine h ?_
    have h0 : (0 : Int32) ≤ nI t := nI_pos' (by omega)
    rcases (by omega : L = 0 ∨ L = 1 ∨ L = 2 ∨ L = 3 ∨ L = 4) with rfl | rfl | rfl | rfl | rfl <;> exact Int32.lt_of_lt_of_le (by decide) h0
set_option maxHeartbeats 4000000 in
set_option maxRecDepth 100000 in
theorem op_add {p : Program} {l : Launch} {e : Env} {s : State} {m : MethodId} {below : List Frame} {meth : Method} {c9 : Code} {H : Heap} {cells slots : Nat} {Q : State → Prop} {ls : Array Slot} {D : va_G} {b0 L : Nat} {xs : Nat → Int32} {cI cA cL : ClassId} {ad am : Nat → Nat} {K n : Nat} {x y : Nat → Nat → Int32} {o : Nat → Int64} {th : Int32} {i : Nat} (C0 : lwC p l s m c9 b0 L xs D cI cA cL ad am) (S0 : lwS s D cI cA cL ad am K n x y o th H) (hK30 : K < 2 ^ 30) (hroom : cells + 1 ≤ room_1.cells ∧ slots + 6 ≤ room_1.slots) (hi : i + 4 < L) (hl : lv_has ls 7 [(0, .ref b0), (1, .ref (ad 0)), (2, .ref (am 0)), (3, .ref (ad 46)), (4, .int (nI i))]) (kk : ∀ (K' n' : Nat) (x' y' : Nat → Nat → Int32) (o' : Nat → Int64) (th' : Int32) (H' : Heap) (ls' : Array Slot), K' ≤ K + 216 → lwS s D cI cA cL ad am K' n' x' y' o' th' H' → lv_has ls' 7 [(0, .ref b0), (1, .ref (ad 0)), (2, .ref (am 0)), (3, .ref (ad 46)), (4, .int (nI i))] → W p l e room_1 s m #[Value.ref b0] below meth c9 H' [] (cells + 1) (slots + 6) Q (F0 m 1441 ls' [])) : W p l e room_1 s m #[Value.ref b0] below meth c9 H [] cells slots Q (F0 m 136 ls []) := by
  have hn9 : n ≤ 24 := S0.2.2.2.n24
  rcases boolE (bookB (xs (i + 1))) with h1 | h1
  · rcases boolE (nameB (xs (i + 2))) with h2 | h2
    · by_cases h3 : n < 24
      · exact z_add_0 C0 S0 hK30 hroom hi hl _ _ h1 h2 h3 rfl rfl kk
      · exact z_add_Tc C0 S0 hK30 hroom hi hl _ _ h1 h2 (by omega) rfl rfl kk
    · exact z_add_Tb C0 S0 hK30 hroom hi hl _ _ h1 h2 rfl rfl kk
  · exact z_add_Ta C0 S0 hK30 hroom hi hl _ _ h1 rfl rfl kk
set_option maxHeartbeats 4000000 in
set_option maxRecDepth 100000 in
theorem op_sync {p : Program} {l : Launch} {e : Env} {s : State} {m : MethodId} {below : List Frame} {meth : Method} {c9 : Code} {H : Heap} {cells slots : Nat} {Q : State → Prop} {ls : Array Slot} {D : va_G} {b0 L : Nat} {xs : Nat → Int32} {cI cA cL : ClassId} {ad am : Nat → Nat} {K n : Nat} {x y : Nat → Nat → Int32} {o : Nat → Int64} {th : Int32} {i : Nat} (C0 : lwC p l s m c9 b0 L xs D cI cA cL ad am) (S0 : lwS s D cI cA cL ad am K n x y o th H) (hK30 : K < 2 ^ 30) (hroom : cells + 1 ≤ room_1.cells ∧ slots + 6 ≤ room_1.slots) (hi : i + 4 < L) (hl : lv_has ls 7 [(0, .ref b0), (1, .ref (ad 0)), (2, .ref (am 0)), (3, .ref (ad 46)), (4, .int (nI i))]) (kk : ∀ (K' n' : Nat) (x' y' : Nat → Nat → Int32) (o' : Nat → Int64) (th' : Int32) (H' : Heap) (ls' : Array Slot), K' ≤ K + 216 → lwS s D cI cA cL ad am K' n' x' y' o' th' H' → lv_has ls' 7 [(0, .ref b0), (1, .ref (ad 0)), (2, .ref (am 0)), (3, .ref (ad 46)), (4, .int (nI i))] → W p l e room_1 s m #[Value.ref b0] below meth c9 H' [] (cells + 1) (slots + 6) Q (F0 m 1441 ls' [])) : W p l e room_1 s m #[Value.ref b0] below meth c9 H [] cells slots Q (F0 m 383 ls []) := by
  have hn9 : n ≤ 24 := S0.2.2.2.n24
  rcases boolE (bookB (xs (i + 1))) with h1 | h1
  · exact z_sync_0 C0 S0 hK30 hroom hi hl _ h1 rfl kk
  · exact z_sync_Ta C0 S0 hK30 hroom hi hl _ h1 rfl kk
set_option maxHeartbeats 4000000 in
set_option maxRecDepth 100000 in
theorem op_unsynced {p : Program} {l : Launch} {e : Env} {s : State} {m : MethodId} {below : List Frame} {meth : Method} {c9 : Code} {H : Heap} {cells slots : Nat} {Q : State → Prop} {ls : Array Slot} {D : va_G} {b0 L : Nat} {xs : Nat → Int32} {cI cA cL : ClassId} {ad am : Nat → Nat} {K n : Nat} {x y : Nat → Nat → Int32} {o : Nat → Int64} {th : Int32} {i : Nat} (C0 : lwC p l s m c9 b0 L xs D cI cA cL ad am) (S0 : lwS s D cI cA cL ad am K n x y o th H) (hK30 : K < 2 ^ 30) (hroom : cells + 1 ≤ room_1.cells ∧ slots + 6 ≤ room_1.slots) (hi : i + 4 < L) (hl : lv_has ls 7 [(0, .ref b0), (1, .ref (ad 0)), (2, .ref (am 0)), (3, .ref (ad 46)), (4, .int (nI i))]) (kk : ∀ (K' n' : Nat) (x' y' : Nat → Nat → Int32) (o' : Nat → Int64) (th' : Int32) (H' : Heap) (ls' : Array Slot), K' ≤ K + 216 → lwS s D cI cA cL ad am K' n' x' y' o' th' H' → lv_has ls' 7 [(0, .ref b0), (1, .ref (ad 0)), (2, .ref (am 0)), (3, .ref (ad 46)), (4, .int (nI i))] → W p l e room_1 s m #[Value.ref b0] below meth c9 H' [] (cells + 1) (slots + 6) Q (F0 m 1441 ls' [])) : W p l e room_1 s m #[Value.ref b0] below meth c9 H [] cells slots Q (F0 m 736 ls []) := by
  have hn9 : n ≤ 24 := S0.2.2.2.n24
  rcases boolE (bookB (xs (i + 1))) with h1 | h1
  · exact z_unsynced_0 C0 S0 hK30 hroom hi hl _ h1 rfl kk
  · exact z_unsynced_Ta C0 S0 hK30 hroom hi hl _ h1 rfl kk
set_option maxHeartbeats 4000000 in
set_option maxRecDepth 100000 in
theorem op_turn {p : Program} {l : Launch} {e : Env} {s : State} {m : MethodId} {below : List Frame} {meth : Method} {c9 : Code} {H : Heap} {cells slots : Nat} {Q : State → Prop} {ls : Array Slot} {D : va_G} {b0 L : Nat} {xs : Nat → Int32} {cI cA cL : ClassId} {ad am : Nat → Nat} {K n : Nat} {x y : Nat → Nat → Int32} {o : Nat → Int64} {th : Int32} {i : Nat} (C0 : lwC p l s m c9 b0 L xs D cI cA cL ad am) (S0 : lwS s D cI cA cL ad am K n x y o th H) (hK30 : K < 2 ^ 30) (hroom : cells + 1 ≤ room_1.cells ∧ slots + 6 ≤ room_1.slots) (hi : i + 4 < L) (hl : lv_has ls 7 [(0, .ref b0), (1, .ref (ad 0)), (2, .ref (am 0)), (3, .ref (ad 46)), (4, .int (nI i))]) (kk : ∀ (K' n' : Nat) (x' y' : Nat → Nat → Int32) (o' : Nat → Int64) (th' : Int32) (H' : Heap) (ls' : Array Slot), K' ≤ K + 216 → lwS s D cI cA cL ad am K' n' x' y' o' th' H' → lv_has ls' 7 [(0, .ref b0), (1, .ref (ad 0)), (2, .ref (am 0)), (3, .ref (ad 46)), (4, .int (nI i))] → W p l e room_1 s m #[Value.ref b0] below meth c9 H' [] (cells + 1) (slots + 6) Q (F0 m 1441 ls' [])) : W p l e room_1 s m #[Value.ref b0] below meth c9 H [] cells slots Q (F0 m 204 ls []) := by
  have hn9 : n ≤ 24 := S0.2.2.2.n24
  rcases cardE (a := xs (i + 1)) hn9 with h1 | ⟨c, hc, e1⟩
  · exact z_turn_Ta C0 S0 hK30 hroom hi hl _ _ _ _ h1 rfl rfl rfl rfl kk
  · rcases boolE (chgB (xs (i + 2)) && kindB (xs (i + 3)) && valueB (xs (i + 4))) with h2 | h2
    · simp only [Bool.and_eq_true] at h2
      obtain ⟨v, hv, e2⟩ := chgE h2.1.1
      obtain ⟨k, hk, e3⟩ := kindE h2.1.2
      obtain ⟨w, hw, e4⟩ := valueE h2.2
      exact z_turn_0 C0 S0 hK30 hroom hi hl c v k w hc hv hk hw e1 e2 e3 e4 kk
    · exact z_turn_Tb C0 S0 hK30 hroom hi hl c _ _ _ hc h2 e1 rfl rfl rfl kk
set_option maxHeartbeats 4000000 in
set_option maxRecDepth 100000 in
theorem op_rename {p : Program} {l : Launch} {e : Env} {s : State} {m : MethodId} {below : List Frame} {meth : Method} {c9 : Code} {H : Heap} {cells slots : Nat} {Q : State → Prop} {ls : Array Slot} {D : va_G} {b0 L : Nat} {xs : Nat → Int32} {cI cA cL : ClassId} {ad am : Nat → Nat} {K n : Nat} {x y : Nat → Nat → Int32} {o : Nat → Int64} {th : Int32} {i : Nat} (C0 : lwC p l s m c9 b0 L xs D cI cA cL ad am) (S0 : lwS s D cI cA cL ad am K n x y o th H) (hK30 : K < 2 ^ 30) (hroom : cells + 1 ≤ room_1.cells ∧ slots + 6 ≤ room_1.slots) (hi : i + 4 < L) (hl : lv_has ls 7 [(0, .ref b0), (1, .ref (ad 0)), (2, .ref (am 0)), (3, .ref (ad 46)), (4, .int (nI i))]) (kk : ∀ (K' n' : Nat) (x' y' : Nat → Nat → Int32) (o' : Nat → Int64) (th' : Int32) (H' : Heap) (ls' : Array Slot), K' ≤ K + 216 → lwS s D cI cA cL ad am K' n' x' y' o' th' H' → lv_has ls' 7 [(0, .ref b0), (1, .ref (ad 0)), (2, .ref (am 0)), (3, .ref (ad 46)), (4, .int (nI i))] → W p l e room_1 s m #[Value.ref b0] below meth c9 H' [] (cells + 1) (slots + 6) Q (F0 m 1441 ls' [])) : W p l e room_1 s m #[Value.ref b0] below meth c9 H [] cells slots Q (F0 m 303 ls []) := by
  have hn9 : n ≤ 24 := S0.2.2.2.n24
  rcases cardE (a := xs (i + 1)) hn9 with h1 | ⟨c, hc, e1⟩
  · exact z_rename_Ta C0 S0 hK30 hroom hi hl _ _ _ h1 rfl rfl rfl kk
  · rcases boolE (chgB (xs (i + 2)) && nameB (xs (i + 3))) with h2 | h2
    · simp only [Bool.and_eq_true] at h2
      obtain ⟨v, hv, e2⟩ := chgE h2.1
      exact z_rename_0 C0 S0 hK30 hroom hi hl c v _ hc hv h2.2 e1 e2 rfl kk
    · exact z_rename_Tb C0 S0 hK30 hroom hi hl c _ _ hc h2 e1 rfl rfl kk
set_option maxHeartbeats 4000000 in
set_option maxRecDepth 100000 in
theorem op_values {p : Program} {l : Launch} {e : Env} {s : State} {m : MethodId} {below : List Frame} {meth : Method} {c9 : Code} {H : Heap} {cells slots : Nat} {Q : State → Prop} {ls : Array Slot} {D : va_G} {b0 L : Nat} {xs : Nat → Int32} {cI cA cL : ClassId} {ad am : Nat → Nat} {K n : Nat} {x y : Nat → Nat → Int32} {o : Nat → Int64} {th : Int32} {i : Nat} (C0 : lwC p l s m c9 b0 L xs D cI cA cL ad am) (S0 : lwS s D cI cA cL ad am K n x y o th H) (hK30 : K < 2 ^ 30) (hroom : cells + 1 ≤ room_1.cells ∧ slots + 6 ≤ room_1.slots) (hi : i + 4 < L) (hl : lv_has ls 7 [(0, .ref b0), (1, .ref (ad 0)), (2, .ref (am 0)), (3, .ref (ad 46)), (4, .int (nI i))]) (kk : ∀ (K' n' : Nat) (x' y' : Nat → Nat → Int32) (o' : Nat → Int64) (th' : Int32) (H' : Heap) (ls' : Array Slot), K' ≤ K + 216 → lwS s D cI cA cL ad am K' n' x' y' o' th' H' → lv_has ls' 7 [(0, .ref b0), (1, .ref (ad 0)), (2, .ref (am 0)), (3, .ref (ad 46)), (4, .int (nI i))] → W p l e room_1 s m #[Value.ref b0] below meth c9 H' [] (cells + 1) (slots + 6) Q (F0 m 1441 ls' [])) : W p l e room_1 s m #[Value.ref b0] below meth c9 H [] cells slots Q (F0 m 452 ls []) := by
  have hn9 : n ≤ 24 := S0.2.2.2.n24
  rcases cardE (a := xs (i + 1)) hn9 with h1 | ⟨c, hc, e1⟩
  · exact z_values_Ta C0 S0 hK30 hroom hi hl _ _ _ h1 rfl rfl rfl kk
  · rcases boolE (verB (xs (i + 2)) && kindB (xs (i + 3))) with h2 | h2
    · simp only [Bool.and_eq_true] at h2
      obtain ⟨v, hv, e2⟩ := verE h2.1
      obtain ⟨k, hk, e3⟩ := kindE h2.2
      exact z_values_0 C0 S0 hK30 hroom hi hl c v k hc hv hk e1 e2 e3 kk
    · exact z_values_Tb C0 S0 hK30 hroom hi hl c _ _ hc h2 e1 rfl rfl kk
set_option maxHeartbeats 4000000 in
set_option maxRecDepth 100000 in
theorem op_nameOf {p : Program} {l : Launch} {e : Env} {s : State} {m : MethodId} {below : List Frame} {meth : Method} {c9 : Code} {H : Heap} {cells slots : Nat} {Q : State → Prop} {ls : Array Slot} {D : va_G} {b0 L : Nat} {xs : Nat → Int32} {cI cA cL : ClassId} {ad am : Nat → Nat} {K n : Nat} {x y : Nat → Nat → Int32} {o : Nat → Int64} {th : Int32} {i : Nat} (C0 : lwC p l s m c9 b0 L xs D cI cA cL ad am) (S0 : lwS s D cI cA cL ad am K n x y o th H) (hK30 : K < 2 ^ 30) (hroom : cells + 1 ≤ room_1.cells ∧ slots + 6 ≤ room_1.slots) (hi : i + 4 < L) (hl : lv_has ls 7 [(0, .ref b0), (1, .ref (ad 0)), (2, .ref (am 0)), (3, .ref (ad 46)), (4, .int (nI i))]) (kk : ∀ (K' n' : Nat) (x' y' : Nat → Nat → Int32) (o' : Nat → Int64) (th' : Int32) (H' : Heap) (ls' : Array Slot), K' ≤ K + 216 → lwS s D cI cA cL ad am K' n' x' y' o' th' H' → lv_has ls' 7 [(0, .ref b0), (1, .ref (ad 0)), (2, .ref (am 0)), (3, .ref (ad 46)), (4, .int (nI i))] → W p l e room_1 s m #[Value.ref b0] below meth c9 H' [] (cells + 1) (slots + 6) Q (F0 m 1441 ls' [])) : W p l e room_1 s m #[Value.ref b0] below meth c9 H [] cells slots Q (F0 m 532 ls []) := by
  have hn9 : n ≤ 24 := S0.2.2.2.n24
  rcases cardE (a := xs (i + 1)) hn9 with h1 | ⟨c, hc, e1⟩
  · exact z_nameOf_Ta C0 S0 hK30 hroom hi hl _ _ h1 rfl rfl kk
  · rcases boolE (verB (xs (i + 2))) with h2 | h2
    · obtain ⟨v, hv, e2⟩ := verE h2
      exact z_nameOf_0 C0 S0 hK30 hroom hi hl c v hc hv e1 e2 kk
    · exact z_nameOf_Tb C0 S0 hK30 hroom hi hl c _ hc h2 e1 rfl kk
set_option maxHeartbeats 4000000 in
set_option maxRecDepth 100000 in
theorem op_merged {p : Program} {l : Launch} {e : Env} {s : State} {m : MethodId} {below : List Frame} {meth : Method} {c9 : Code} {H : Heap} {cells slots : Nat} {Q : State → Prop} {ls : Array Slot} {D : va_G} {b0 L : Nat} {xs : Nat → Int32} {cI cA cL : ClassId} {ad am : Nat → Nat} {K n : Nat} {x y : Nat → Nat → Int32} {o : Nat → Int64} {th : Int32} {i : Nat} (C0 : lwC p l s m c9 b0 L xs D cI cA cL ad am) (S0 : lwS s D cI cA cL ad am K n x y o th H) (hK30 : K < 2 ^ 30) (hroom : cells + 1 ≤ room_1.cells ∧ slots + 6 ≤ room_1.slots) (hi : i + 4 < L) (hl : lv_has ls 7 [(0, .ref b0), (1, .ref (ad 0)), (2, .ref (am 0)), (3, .ref (ad 46)), (4, .int (nI i))]) (kk : ∀ (K' n' : Nat) (x' y' : Nat → Nat → Int32) (o' : Nat → Int64) (th' : Int32) (H' : Heap) (ls' : Array Slot), K' ≤ K + 216 → lwS s D cI cA cL ad am K' n' x' y' o' th' H' → lv_has ls' 7 [(0, .ref b0), (1, .ref (ad 0)), (2, .ref (am 0)), (3, .ref (ad 46)), (4, .int (nI i))] → W p l e room_1 s m #[Value.ref b0] below meth c9 H' [] (cells + 1) (slots + 6) Q (F0 m 1441 ls' [])) : W p l e room_1 s m #[Value.ref b0] below meth c9 H [] cells slots Q (F0 m 600 ls []) := by
  have hn9 : n ≤ 24 := S0.2.2.2.n24
  rcases cardE (a := xs (i + 1)) hn9 with h1 | ⟨c, hc, e1⟩
  · exact z_merged_Ta C0 S0 hK30 hroom hi hl _ _ h1 rfl rfl kk
  · rcases boolE (kindB (xs (i + 2))) with h2 | h2
    · obtain ⟨k, hk, e2⟩ := kindE h2
      exact z_merged_0 C0 S0 hK30 hroom hi hl c k hc hk e1 e2 kk
    · exact z_merged_Tb C0 S0 hK30 hroom hi hl c _ hc h2 e1 rfl kk
set_option maxHeartbeats 4000000 in
set_option maxRecDepth 100000 in
theorem op_mergedByValues {p : Program} {l : Launch} {e : Env} {s : State} {m : MethodId} {below : List Frame} {meth : Method} {c9 : Code} {H : Heap} {cells slots : Nat} {Q : State → Prop} {ls : Array Slot} {D : va_G} {b0 L : Nat} {xs : Nat → Int32} {cI cA cL : ClassId} {ad am : Nat → Nat} {K n : Nat} {x y : Nat → Nat → Int32} {o : Nat → Int64} {th : Int32} {i : Nat} (C0 : lwC p l s m c9 b0 L xs D cI cA cL ad am) (S0 : lwS s D cI cA cL ad am K n x y o th H) (hK30 : K < 2 ^ 30) (hroom : cells + 1 ≤ room_1.cells ∧ slots + 6 ≤ room_1.slots) (hi : i + 4 < L) (hl : lv_has ls 7 [(0, .ref b0), (1, .ref (ad 0)), (2, .ref (am 0)), (3, .ref (ad 46)), (4, .int (nI i))]) (kk : ∀ (K' n' : Nat) (x' y' : Nat → Nat → Int32) (o' : Nat → Int64) (th' : Int32) (H' : Heap) (ls' : Array Slot), K' ≤ K + 216 → lwS s D cI cA cL ad am K' n' x' y' o' th' H' → lv_has ls' 7 [(0, .ref b0), (1, .ref (ad 0)), (2, .ref (am 0)), (3, .ref (ad 46)), (4, .int (nI i))] → W p l e room_1 s m #[Value.ref b0] below meth c9 H' [] (cells + 1) (slots + 6) Q (F0 m 1441 ls' [])) : W p l e room_1 s m #[Value.ref b0] below meth c9 H [] cells slots Q (F0 m 668 ls []) := by
  have hn9 : n ≤ 24 := S0.2.2.2.n24
  rcases cardE (a := xs (i + 1)) hn9 with h1 | ⟨c, hc, e1⟩
  · exact z_mergedByValues_Ta C0 S0 hK30 hroom hi hl _ _ h1 rfl rfl kk
  · rcases boolE (kindB (xs (i + 2))) with h2 | h2
    · obtain ⟨k, hk, e2⟩ := kindE h2
      exact z_mergedByValues_0 C0 S0 hK30 hroom hi hl c k hc hk e1 e2 kk
    · exact z_mergedByValues_Tb C0 S0 hK30 hroom hi hl c _ hc h2 e1 rfl kk
set_option maxHeartbeats 4000000 in
set_option maxRecDepth 100000 in
theorem op_shown {p : Program} {l : Launch} {e : Env} {s : State} {m : MethodId} {below : List Frame} {meth : Method} {c9 : Code} {H : Heap} {cells slots : Nat} {Q : State → Prop} {ls : Array Slot} {D : va_G} {b0 L : Nat} {xs : Nat → Int32} {cI cA cL : ClassId} {ad am : Nat → Nat} {K n : Nat} {x y : Nat → Nat → Int32} {o : Nat → Int64} {th : Int32} {i : Nat} (C0 : lwC p l s m c9 b0 L xs D cI cA cL ad am) (S0 : lwS s D cI cA cL ad am K n x y o th H) (hK30 : K < 2 ^ 30) (hroom : cells + 1 ≤ room_1.cells ∧ slots + 6 ≤ room_1.slots) (hi : i + 4 < L) (hl : lv_has ls 7 [(0, .ref b0), (1, .ref (ad 0)), (2, .ref (am 0)), (3, .ref (ad 46)), (4, .int (nI i))]) (kk : ∀ (K' n' : Nat) (x' y' : Nat → Nat → Int32) (o' : Nat → Int64) (th' : Int32) (H' : Heap) (ls' : Array Slot), K' ≤ K + 216 → lwS s D cI cA cL ad am K' n' x' y' o' th' H' → lv_has ls' 7 [(0, .ref b0), (1, .ref (ad 0)), (2, .ref (am 0)), (3, .ref (ad 46)), (4, .int (nI i))] → W p l e room_1 s m #[Value.ref b0] below meth c9 H' [] (cells + 1) (slots + 6) Q (F0 m 1441 ls' [])) : W p l e room_1 s m #[Value.ref b0] below meth c9 H [] cells slots Q (F0 m 1060 ls []) := by
  have hn9 : n ≤ 24 := S0.2.2.2.n24
  rcases cardE (a := xs (i + 1)) hn9 with h1 | ⟨c, hc, e1⟩
  · exact z_shown_Ta C0 S0 hK30 hroom hi hl _ _ h1 rfl rfl kk
  · rcases boolE (kindB (xs (i + 2))) with h2 | h2
    · obtain ⟨k, hk, e2⟩ := kindE h2
      exact z_shown_0 C0 S0 hK30 hroom hi hl c k hc hk e1 e2 kk
    · exact z_shown_Tb C0 S0 hK30 hroom hi hl c _ hc h2 e1 rfl kk
set_option maxHeartbeats 4000000 in
set_option maxRecDepth 100000 in
theorem op_edit {p : Program} {l : Launch} {e : Env} {s : State} {m : MethodId} {below : List Frame} {meth : Method} {c9 : Code} {H : Heap} {cells slots : Nat} {Q : State → Prop} {ls : Array Slot} {D : va_G} {b0 L : Nat} {xs : Nat → Int32} {cI cA cL : ClassId} {ad am : Nat → Nat} {K n : Nat} {x y : Nat → Nat → Int32} {o : Nat → Int64} {th : Int32} {i : Nat} (C0 : lwC p l s m c9 b0 L xs D cI cA cL ad am) (S0 : lwS s D cI cA cL ad am K n x y o th H) (hK30 : K < 2 ^ 30) (hroom : cells + 1 ≤ room_1.cells ∧ slots + 6 ≤ room_1.slots) (hi : i + 4 < L) (hl : lv_has ls 7 [(0, .ref b0), (1, .ref (ad 0)), (2, .ref (am 0)), (3, .ref (ad 46)), (4, .int (nI i))]) (kk : ∀ (K' n' : Nat) (x' y' : Nat → Nat → Int32) (o' : Nat → Int64) (th' : Int32) (H' : Heap) (ls' : Array Slot), K' ≤ K + 216 → lwS s D cI cA cL ad am K' n' x' y' o' th' H' → lv_has ls' 7 [(0, .ref b0), (1, .ref (ad 0)), (2, .ref (am 0)), (3, .ref (ad 46)), (4, .int (nI i))] → W p l e room_1 s m #[Value.ref b0] below meth c9 H' [] (cells + 1) (slots + 6) Q (F0 m 1441 ls' [])) : W p l e room_1 s m #[Value.ref b0] below meth c9 H [] cells slots Q (F0 m 1128 ls []) := by
  have hn9 : n ≤ 24 := S0.2.2.2.n24
  rcases cardE (a := xs (i + 1)) hn9 with h1 | ⟨c, hc, e1⟩
  · exact z_edit_Ta C0 S0 hK30 hroom hi hl _ _ _ h1 rfl rfl rfl kk
  · rcases boolE (kindB (xs (i + 2)) && valueB (xs (i + 3))) with h2 | h2
    · simp only [Bool.and_eq_true] at h2
      obtain ⟨k, hk, e2⟩ := kindE h2.1
      obtain ⟨w, hw, e3⟩ := valueE h2.2
      rcases boolE (hasB (orF (x 9 c) (x (k + 16)) n) w) with h3 | h3
      · exact z_edit_a C0 S0 hK30 hroom hi hl c k w hc hk hw h3 e1 e2 e3 kk
      · exact z_edit_b C0 S0 hK30 hroom hi hl c k w hc hk hw h3 e1 e2 e3 kk
    · exact z_edit_Tb C0 S0 hK30 hroom hi hl c _ _ hc h2 e1 rfl rfl kk
set_option maxHeartbeats 4000000 in
set_option maxRecDepth 100000 in
theorem op_group {p : Program} {l : Launch} {e : Env} {s : State} {m : MethodId} {below : List Frame} {meth : Method} {c9 : Code} {H : Heap} {cells slots : Nat} {Q : State → Prop} {ls : Array Slot} {D : va_G} {b0 L : Nat} {xs : Nat → Int32} {cI cA cL : ClassId} {ad am : Nat → Nat} {K n : Nat} {x y : Nat → Nat → Int32} {o : Nat → Int64} {th : Int32} {i : Nat} (C0 : lwC p l s m c9 b0 L xs D cI cA cL ad am) (S0 : lwS s D cI cA cL ad am K n x y o th H) (hK30 : K < 2 ^ 30) (hroom : cells + 1 ≤ room_1.cells ∧ slots + 6 ≤ room_1.slots) (hi : i + 4 < L) (hl : lv_has ls 7 [(0, .ref b0), (1, .ref (ad 0)), (2, .ref (am 0)), (3, .ref (ad 46)), (4, .int (nI i))]) (kk : ∀ (K' n' : Nat) (x' y' : Nat → Nat → Int32) (o' : Nat → Int64) (th' : Int32) (H' : Heap) (ls' : Array Slot), K' ≤ K + 216 → lwS s D cI cA cL ad am K' n' x' y' o' th' H' → lv_has ls' 7 [(0, .ref b0), (1, .ref (ad 0)), (2, .ref (am 0)), (3, .ref (ad 46)), (4, .int (nI i))] → W p l e room_1 s m #[Value.ref b0] below meth c9 H' [] (cells + 1) (slots + 6) Q (F0 m 1441 ls' [])) : W p l e room_1 s m #[Value.ref b0] below meth c9 H [] cells slots Q (F0 m 935 ls []) := by
  have hn9 : n ≤ 24 := S0.2.2.2.n24
  rcases cardE (a := xs (i + 1)) hn9 with h1 | ⟨c, hc, e1⟩
  · exact z_group_Ta C0 S0 hK30 hroom hi hl _ h1 rfl kk
  · exact z_group_0 C0 S0 hK30 hroom hi hl c hc e1 kk
set_option maxHeartbeats 4000000 in
set_option maxRecDepth 100000 in
theorem op_preferred {p : Program} {l : Launch} {e : Env} {s : State} {m : MethodId} {below : List Frame} {meth : Method} {c9 : Code} {H : Heap} {cells slots : Nat} {Q : State → Prop} {ls : Array Slot} {D : va_G} {b0 L : Nat} {xs : Nat → Int32} {cI cA cL : ClassId} {ad am : Nat → Nat} {K n : Nat} {x y : Nat → Nat → Int32} {o : Nat → Int64} {th : Int32} {i : Nat} (C0 : lwC p l s m c9 b0 L xs D cI cA cL ad am) (S0 : lwS s D cI cA cL ad am K n x y o th H) (hK30 : K < 2 ^ 30) (hroom : cells + 1 ≤ room_1.cells ∧ slots + 6 ≤ room_1.slots) (hi : i + 4 < L) (hl : lv_has ls 7 [(0, .ref b0), (1, .ref (ad 0)), (2, .ref (am 0)), (3, .ref (ad 46)), (4, .int (nI i))]) (kk : ∀ (K' n' : Nat) (x' y' : Nat → Nat → Int32) (o' : Nat → Int64) (th' : Int32) (H' : Heap) (ls' : Array Slot), K' ≤ K + 216 → lwS s D cI cA cL ad am K' n' x' y' o' th' H' → lv_has ls' 7 [(0, .ref b0), (1, .ref (ad 0)), (2, .ref (am 0)), (3, .ref (ad 46)), (4, .int (nI i))] → W p l e room_1 s m #[Value.ref b0] below meth c9 H' [] (cells + 1) (slots + 6) Q (F0 m 1441 ls' [])) : W p l e room_1 s m #[Value.ref b0] below meth c9 H [] cells slots Q (F0 m 1004 ls []) := by
  have hn9 : n ≤ 24 := S0.2.2.2.n24
  rcases cardE (a := xs (i + 1)) hn9 with h1 | ⟨c, hc, e1⟩
  · exact z_preferred_Ta C0 S0 hK30 hroom hi hl _ h1 rfl kk
  · exact z_preferred_0 C0 S0 hK30 hroom hi hl c hc e1 kk
set_option maxHeartbeats 4000000 in
set_option maxRecDepth 100000 in
theorem op_link {p : Program} {l : Launch} {e : Env} {s : State} {m : MethodId} {below : List Frame} {meth : Method} {c9 : Code} {H : Heap} {cells slots : Nat} {Q : State → Prop} {ls : Array Slot} {D : va_G} {b0 L : Nat} {xs : Nat → Int32} {cI cA cL : ClassId} {ad am : Nat → Nat} {K n : Nat} {x y : Nat → Nat → Int32} {o : Nat → Int64} {th : Int32} {i : Nat} (C0 : lwC p l s m c9 b0 L xs D cI cA cL ad am) (S0 : lwS s D cI cA cL ad am K n x y o th H) (hK30 : K < 2 ^ 30) (hroom : cells + 1 ≤ room_1.cells ∧ slots + 6 ≤ room_1.slots) (hi : i + 4 < L) (hl : lv_has ls 7 [(0, .ref b0), (1, .ref (ad 0)), (2, .ref (am 0)), (3, .ref (ad 46)), (4, .int (nI i))]) (kk : ∀ (K' n' : Nat) (x' y' : Nat → Nat → Int32) (o' : Nat → Int64) (th' : Int32) (H' : Heap) (ls' : Array Slot), K' ≤ K + 216 → lwS s D cI cA cL ad am K' n' x' y' o' th' H' → lv_has ls' 7 [(0, .ref b0), (1, .ref (ad 0)), (2, .ref (am 0)), (3, .ref (ad 46)), (4, .int (nI i))] → W p l e room_1 s m #[Value.ref b0] below meth c9 H' [] (cells + 1) (slots + 6) Q (F0 m 1441 ls' [])) : W p l e room_1 s m #[Value.ref b0] below meth c9 H [] cells slots Q (F0 m 792 ls []) := by
  have hn9 : n ≤ 24 := S0.2.2.2.n24
  rcases cardE (a := xs (i + 1)) hn9 with h1 | ⟨c, hc, e1⟩
  · exact z_link_Ta C0 S0 hK30 hroom hi hl _ _ h1 rfl rfl kk
  · rcases cardE (a := xs (i + 2)) hn9 with h2 | ⟨d, hd, e2⟩
    · exact z_link_Tb C0 S0 hK30 hroom hi hl c _ hc h2 e1 rfl kk
    · by_cases hne : c = d
      · subst hne
        exact z_link_Tc C0 S0 hK30 hroom hi hl c hc e1 e2 kk
      · rcases boolE (hasB (x 8 c) d) with h3 | h3
        · exact z_link_Td C0 S0 hK30 hroom hi hl c d hc hd hne h3 e1 e2 kk
        · exact z_link_0 C0 S0 hK30 hroom hi hl c d hc hd hne h3 e1 e2 kk
set_option maxHeartbeats 4000000 in
set_option maxRecDepth 100000 in
theorem op_score {p : Program} {l : Launch} {e : Env} {s : State} {m : MethodId} {below : List Frame} {meth : Method} {c9 : Code} {H : Heap} {cells slots : Nat} {Q : State → Prop} {ls : Array Slot} {D : va_G} {b0 L : Nat} {xs : Nat → Int32} {cI cA cL : ClassId} {ad am : Nat → Nat} {K n : Nat} {x y : Nat → Nat → Int32} {o : Nat → Int64} {th : Int32} {i : Nat} (C0 : lwC p l s m c9 b0 L xs D cI cA cL ad am) (S0 : lwS s D cI cA cL ad am K n x y o th H) (hK30 : K < 2 ^ 30) (hroom : cells + 1 ≤ room_1.cells ∧ slots + 6 ≤ room_1.slots) (hi : i + 4 < L) (hl : lv_has ls 7 [(0, .ref b0), (1, .ref (ad 0)), (2, .ref (am 0)), (3, .ref (ad 46)), (4, .int (nI i))]) (kk : ∀ (K' n' : Nat) (x' y' : Nat → Nat → Int32) (o' : Nat → Int64) (th' : Int32) (H' : Heap) (ls' : Array Slot), K' ≤ K + 216 → lwS s D cI cA cL ad am K' n' x' y' o' th' H' → lv_has ls' 7 [(0, .ref b0), (1, .ref (ad 0)), (2, .ref (am 0)), (3, .ref (ad 46)), (4, .int (nI i))] → W p l e room_1 s m #[Value.ref b0] below meth c9 H' [] (cells + 1) (slots + 6) Q (F0 m 1441 ls' [])) : W p l e room_1 s m #[Value.ref b0] below meth c9 H [] cells slots Q (F0 m 1208 ls []) := by
  have hn9 : n ≤ 24 := S0.2.2.2.n24
  rcases cardE (a := xs (i + 1)) hn9 with h1 | ⟨c, hc, e1⟩
  · exact z_score_Ta C0 S0 hK30 hroom hi hl _ _ h1 rfl rfl kk
  · rcases cardE (a := xs (i + 2)) hn9 with h2 | ⟨d, hd, e2⟩
    · exact z_score_Tb C0 S0 hK30 hroom hi hl c _ hc h2 e1 rfl kk
    · by_cases hne : c = d
      · subst hne
        exact z_score_Tc C0 S0 hK30 hroom hi hl c hc e1 e2 kk
      · exact z_score_0 C0 S0 hK30 hroom hi hl c d hc hd hne e1 e2 kk
set_option maxHeartbeats 4000000 in
set_option maxRecDepth 100000 in
theorem op_turnDown {p : Program} {l : Launch} {e : Env} {s : State} {m : MethodId} {below : List Frame} {meth : Method} {c9 : Code} {H : Heap} {cells slots : Nat} {Q : State → Prop} {ls : Array Slot} {D : va_G} {b0 L : Nat} {xs : Nat → Int32} {cI cA cL : ClassId} {ad am : Nat → Nat} {K n : Nat} {x y : Nat → Nat → Int32} {o : Nat → Int64} {th : Int32} {i : Nat} (C0 : lwC p l s m c9 b0 L xs D cI cA cL ad am) (S0 : lwS s D cI cA cL ad am K n x y o th H) (hK30 : K < 2 ^ 30) (hroom : cells + 1 ≤ room_1.cells ∧ slots + 6 ≤ room_1.slots) (hi : i + 4 < L) (hl : lv_has ls 7 [(0, .ref b0), (1, .ref (ad 0)), (2, .ref (am 0)), (3, .ref (ad 46)), (4, .int (nI i))]) (kk : ∀ (K' n' : Nat) (x' y' : Nat → Nat → Int32) (o' : Nat → Int64) (th' : Int32) (H' : Heap) (ls' : Array Slot), K' ≤ K + 216 → lwS s D cI cA cL ad am K' n' x' y' o' th' H' → lv_has ls' 7 [(0, .ref b0), (1, .ref (ad 0)), (2, .ref (am 0)), (3, .ref (ad 46)), (4, .int (nI i))] → W p l e room_1 s m #[Value.ref b0] below meth c9 H' [] (cells + 1) (slots + 6) Q (F0 m 1441 ls' [])) : W p l e room_1 s m #[Value.ref b0] below meth c9 H [] cells slots Q (F0 m 1345 ls []) := by
  have hn9 : n ≤ 24 := S0.2.2.2.n24
  rcases cardE (a := xs (i + 1)) hn9 with h1 | ⟨c, hc, e1⟩
  · exact z_turnDown_Ta C0 S0 hK30 hroom hi hl _ _ (decide (xs (i + 3) ≠ 0)) h1 rfl rfl rfl kk
  · rcases cardE (a := xs (i + 2)) hn9 with h2 | ⟨d, hd, e2⟩
    · exact z_turnDown_Tb C0 S0 hK30 hroom hi hl c _ (decide (xs (i + 3) ≠ 0)) hc h2 e1 rfl rfl kk
    · by_cases hne : c = d
      · subst hne
        exact z_turnDown_Tc C0 S0 hK30 hroom hi hl c (decide (xs (i + 3) ≠ 0)) hc e1 e2 rfl kk
      · by_cases h3 : sg x c d = 0
        · exact z_turnDown_Td C0 S0 hK30 hroom hi hl c d (decide (xs (i + 3) ≠ 0)) hc hd hne h3 e1 e2 rfl kk
        · rcases boolE (decide (xs (i + 3) ≠ 0)) with h4 | h4
          · exact z_turnDown_g C0 S0 hK30 hroom hi hl c d hc hd hne h3 e1 e2 h4 kk
          · exact z_turnDown_n C0 S0 hK30 hroom hi hl c d hc hd hne h3 e1 e2 h4 kk
set_option maxHeartbeats 4000000 in
set_option maxRecDepth 100000 in
theorem op_cut {p : Program} {l : Launch} {e : Env} {s : State} {m : MethodId} {below : List Frame} {meth : Method} {c9 : Code} {H : Heap} {cells slots : Nat} {Q : State → Prop} {ls : Array Slot} {D : va_G} {b0 L : Nat} {xs : Nat → Int32} {cI cA cL : ClassId} {ad am : Nat → Nat} {K n : Nat} {x y : Nat → Nat → Int32} {o : Nat → Int64} {th : Int32} {i : Nat} (C0 : lwC p l s m c9 b0 L xs D cI cA cL ad am) (S0 : lwS s D cI cA cL ad am K n x y o th H) (hK30 : K < 2 ^ 30) (hroom : cells + 1 ≤ room_1.cells ∧ slots + 6 ≤ room_1.slots) (hi : i + 4 < L) (hl : lv_has ls 7 [(0, .ref b0), (1, .ref (ad 0)), (2, .ref (am 0)), (3, .ref (ad 46)), (4, .int (nI i))]) (kk : ∀ (K' n' : Nat) (x' y' : Nat → Nat → Int32) (o' : Nat → Int64) (th' : Int32) (H' : Heap) (ls' : Array Slot), K' ≤ K + 216 → lwS s D cI cA cL ad am K' n' x' y' o' th' H' → lv_has ls' 7 [(0, .ref b0), (1, .ref (ad 0)), (2, .ref (am 0)), (3, .ref (ad 46)), (4, .int (nI i))] → W p l e room_1 s m #[Value.ref b0] below meth c9 H' [] (cells + 1) (slots + 6) Q (F0 m 1441 ls' [])) : W p l e room_1 s m #[Value.ref b0] below meth c9 H [] cells slots Q (F0 m 860 ls []) := by
  have hn9 : n ≤ 24 := S0.2.2.2.n24
  rcases cardE (a := xs (i + 1)) hn9 with h1 | ⟨c, hc, e1⟩
  · exact z_cut_Ta C0 S0 hK30 hroom hi hl _ _ h1 rfl rfl kk
  · rcases cardE (a := xs (i + 2)) hn9 with h2 | ⟨d, hd, e2⟩
    · exact z_cut_Tb C0 S0 hK30 hroom hi hl c _ hc h2 e1 rfl kk
    · rcases boolE (hasB (x 8 c) d) with h3 | h3
      · exact z_cut_0 C0 S0 hK30 hroom hi hl c d hc hd h3 e1 e2 kk
      · exact z_cut_Tc C0 S0 hK30 hroom hi hl c d hc hd h3 e1 e2 kk
set_option maxHeartbeats 4000000 in
set_option maxRecDepth 100000 in
theorem op_pairAt {p : Program} {l : Launch} {e : Env} {s : State} {m : MethodId} {below : List Frame} {meth : Method} {c9 : Code} {H : Heap} {cells slots : Nat} {Q : State → Prop} {ls : Array Slot} {D : va_G} {b0 L : Nat} {xs : Nat → Int32} {cI cA cL : ClassId} {ad am : Nat → Nat} {K n : Nat} {x y : Nat → Nat → Int32} {o : Nat → Int64} {th : Int32} {i : Nat} (C0 : lwC p l s m c9 b0 L xs D cI cA cL ad am) (S0 : lwS s D cI cA cL ad am K n x y o th H) (hK30 : K < 2 ^ 30) (hroom : cells + 1 ≤ room_1.cells ∧ slots + 6 ≤ room_1.slots) (hi : i + 4 < L) (hl : lv_has ls 7 [(0, .ref b0), (1, .ref (ad 0)), (2, .ref (am 0)), (3, .ref (ad 46)), (4, .int (nI i))]) (kk : ∀ (K' n' : Nat) (x' y' : Nat → Nat → Int32) (o' : Nat → Int64) (th' : Int32) (H' : Heap) (ls' : Array Slot), K' ≤ K + 216 → lwS s D cI cA cL ad am K' n' x' y' o' th' H' → lv_has ls' 7 [(0, .ref b0), (1, .ref (ad 0)), (2, .ref (am 0)), (3, .ref (ad 46)), (4, .int (nI i))] → W p l e room_1 s m #[Value.ref b0] below meth c9 H' [] (cells + 1) (slots + 6) Q (F0 m 1441 ls' [])) : W p l e room_1 s m #[Value.ref b0] below meth c9 H [] cells slots Q (F0 m 1289 ls []) := by
  have hn9 : n ≤ 24 := S0.2.2.2.n24
  by_cases h1 : ¬ xs (i + 1) < 0 ∧ xs (i + 1) < tlC x n
  · obtain ⟨q, hq, e1⟩ := nI_of h1.1
    exact z_pairAt_0 C0 S0 hK30 hroom hi hl q hq (by rw [← e1]; exact h1.2) e1 kk
  · exact z_pairAt_Ta C0 S0 hK30 hroom hi hl _ h1 rfl kk
set_option maxHeartbeats 4000000 in
set_option maxRecDepth 100000 in
theorem op_cards {p : Program} {l : Launch} {e : Env} {s : State} {m : MethodId} {below : List Frame} {meth : Method} {c9 : Code} {H : Heap} {cells slots : Nat} {Q : State → Prop} {ls : Array Slot} {D : va_G} {b0 L : Nat} {xs : Nat → Int32} {cI cA cL : ClassId} {ad am : Nat → Nat} {K n : Nat} {x y : Nat → Nat → Int32} {o : Nat → Int64} {th : Int32} {i : Nat} (C0 : lwC p l s m c9 b0 L xs D cI cA cL ad am) (S0 : lwS s D cI cA cL ad am K n x y o th H) (hK30 : K < 2 ^ 30) (hroom : cells + 1 ≤ room_1.cells ∧ slots + 6 ≤ room_1.slots) (hi : i + 4 < L) (hl : lv_has ls 7 [(0, .ref b0), (1, .ref (ad 0)), (2, .ref (am 0)), (3, .ref (ad 46)), (4, .int (nI i))]) (kk : ∀ (K' n' : Nat) (x' y' : Nat → Nat → Int32) (o' : Nat → Int64) (th' : Int32) (H' : Heap) (ls' : Array Slot), K' ≤ K + 216 → lwS s D cI cA cL ad am K' n' x' y' o' th' H' → lv_has ls' 7 [(0, .ref b0), (1, .ref (ad 0)), (2, .ref (am 0)), (3, .ref (ad 46)), (4, .int (nI i))] → W p l e room_1 s m #[Value.ref b0] below meth c9 H' [] (cells + 1) (slots + 6) Q (F0 m 1441 ls' [])) : W p l e room_1 s m #[Value.ref b0] below meth c9 H [] cells slots Q (F0 m 439 ls []) := by
  have hn9 : n ≤ 24 := S0.2.2.2.n24
  have hn : n ≤ 24 := hn9
  obtain ⟨hx, hb, hF, hK, hDo, hDm, hdis, hT, hXF, hC, hlt, hX, hbl, hL⟩ := C0
  obtain ⟨hPo, hPm, hS, hR⟩ := S0
  have hts := hF.2.2.2.2
  have hKm := hK.sub (tys' := [(cI, .int), (cA, .array .int)]) [0, 1] rfl
  have hAo : ∀ q, wA ad 46 q → s.heap.size ≤ q := fun q ⟨k, hk, eq⟩ => by rw [eq]; exact hDo.2 k (by omega)
  have hAm : ∀ q, wA am 8 q → s.heap.size ≤ q := fun q ⟨k, hk, eq⟩ => by rw [eq]; exact hDm.2 k hk
  refine W.widen (k := cells + 1) (n := slots + 6) (Nat.le_succ _) (Nat.le_add_right _ _) ?_
  refine lv_aload_n hx hb dL_law_439 rfl (lv_at hl 1 rfl) ?_
  refine k_Ri (va_runV (As := []) (rest := []) hF (c_X3_cards l D cI cA ad n x) (cwV 0 hts gL_law_X3_cards rfl rfl rfl (by decide +kernel) ⟨(Nat.le_of_ble_eq_true rfl), (Nat.le_of_ble_eq_true rfl)⟩) (k_pre (oP_c hPo) hKm (oD_c hDo) hT (k := 0) (by decide) cF_0 rfl) rfl rfl hl.1 rfl (lv_room (Nat.le_of_ble_eq_true rfl)) dL_law_440 ⟨hroom.1, hroom.2⟩) ?_
  refine lv_aload_n hx hb dL_law_443 rfl (lv_at hl 2 rfl) ?_
  refine k_M (va_runV (As := []) (rest := [.int (nI n)]) hF (c_X4_cards l D cI cA am th n y) (cwV 0 hts gL_law_X4_cards rfl rfl rfl (by decide +kernel) ⟨(Nat.le_of_ble_eq_true rfl), (Nat.le_of_ble_eq_true rfl)⟩) (k_pre hPm hKm hDm hT (k := 0) (by decide) mF_0 rfl) rfl rfl hl.1 rfl (lv_room (Nat.le_of_ble_eq_true rfl)) dL_law_444 ⟨hroom.1, hroom.2⟩) hAm (fun H2 hPm hz hk9 => ?_)
  have hPo := lw_keep (fun j hj ⟨k, hk, eq⟩ => hdis j k hj hk eq) hPo hk9
  have hS := lw_S hAm hS hz hk9
  refine r_topi (show _ = nI n from rfl) ?_
  refine lv_icmp_eq (tgt := 1441) hx hb dL_law_447 (by decide) (fun _ => ?_) (fun h => absurd rfl h)
  exact kk _ _ _ _ _ _ _ _ (by omega) ⟨hPo, hPm, hS, hR⟩ hl
set_option maxHeartbeats 4000000 in
set_option maxRecDepth 100000 in
theorem op_groups {p : Program} {l : Launch} {e : Env} {s : State} {m : MethodId} {below : List Frame} {meth : Method} {c9 : Code} {H : Heap} {cells slots : Nat} {Q : State → Prop} {ls : Array Slot} {D : va_G} {b0 L : Nat} {xs : Nat → Int32} {cI cA cL : ClassId} {ad am : Nat → Nat} {K n : Nat} {x y : Nat → Nat → Int32} {o : Nat → Int64} {th : Int32} {i : Nat} (C0 : lwC p l s m c9 b0 L xs D cI cA cL ad am) (S0 : lwS s D cI cA cL ad am K n x y o th H) (hK30 : K < 2 ^ 30) (hroom : cells + 1 ≤ room_1.cells ∧ slots + 6 ≤ room_1.slots) (hi : i + 4 < L) (hl : lv_has ls 7 [(0, .ref b0), (1, .ref (ad 0)), (2, .ref (am 0)), (3, .ref (ad 46)), (4, .int (nI i))]) (kk : ∀ (K' n' : Nat) (x' y' : Nat → Nat → Int32) (o' : Nat → Int64) (th' : Int32) (H' : Heap) (ls' : Array Slot), K' ≤ K + 216 → lwS s D cI cA cL ad am K' n' x' y' o' th' H' → lv_has ls' 7 [(0, .ref b0), (1, .ref (ad 0)), (2, .ref (am 0)), (3, .ref (ad 46)), (4, .int (nI i))] → W p l e room_1 s m #[Value.ref b0] below meth c9 H' [] (cells + 1) (slots + 6) Q (F0 m 1441 ls' [])) : W p l e room_1 s m #[Value.ref b0] below meth c9 H [] cells slots Q (F0 m 991 ls []) := by
  have hn9 : n ≤ 24 := S0.2.2.2.n24
  have hn : n ≤ 24 := hn9
  obtain ⟨hx, hb, hF, hK, hDo, hDm, hdis, hT, hXF, hC, hlt, hX, hbl, hL⟩ := C0
  obtain ⟨hPo, hPm, hS, hR⟩ := S0
  have hts := hF.2.2.2.2
  have hKm := hK.sub (tys' := [(cI, .int), (cA, .array .int)]) [0, 1] rfl
  have hAo : ∀ q, wA ad 46 q → s.heap.size ≤ q := fun q ⟨k, hk, eq⟩ => by rw [eq]; exact hDo.2 k (by omega)
  have hAm : ∀ q, wA am 8 q → s.heap.size ≤ q := fun q ⟨k, hk, eq⟩ => by rw [eq]; exact hDm.2 k hk
  refine W.widen (k := cells + 1) (n := slots + 6) (Nat.le_succ _) (Nat.le_add_right _ _) ?_
  refine lv_aload_n hx hb dL_law_991 rfl (lv_at hl 1 rfl) ?_
  refine k_Ri (va_runV (As := []) (rest := []) hF (c_X3_groups l D cI cA ad n x hn) (cwV 0 hts gL_law_X3_groups rfl rfl rfl (by decide +kernel) ⟨(Nat.le_of_ble_eq_true rfl), (Nat.le_of_ble_eq_true rfl)⟩) (k_pre (oP_c hPo) hKm (oD_c hDo) hT (k := 0) (by decide) cF_0 rfl) rfl rfl hl.1 rfl (lv_room (Nat.le_of_ble_eq_true rfl)) dL_law_992 ⟨hroom.1, hroom.2⟩) ?_
  refine lv_aload_n hx hb dL_law_995 rfl (lv_at hl 2 rfl) ?_
  refine k_M (va_runV (As := []) (rest := [.int (cntF (fun i => lowB (x 9 i) i) n)]) hF (c_X4_groups l D cI cA am th n y (x 9) hn hR.grp) (cwV 0 hts gL_law_X4_groups rfl rfl rfl (by decide +kernel) ⟨(Nat.le_of_ble_eq_true rfl), (Nat.le_of_ble_eq_true rfl)⟩) (k_pre hPm hKm hDm hT (k := 0) (by decide) mF_0 rfl) rfl rfl hl.1 rfl (lv_room (Nat.le_of_ble_eq_true rfl)) dL_law_996 ⟨hroom.1, hroom.2⟩) hAm (fun H2 hPm hz hk9 => ?_)
  have hPo := lw_keep (fun j hj ⟨k, hk, eq⟩ => hdis j k hj hk eq) hPo hk9
  have hS := lw_S hAm hS hz hk9
  refine r_topi (show _ = cntF (fun i => lowB (x 9 i) i) n from (cntM_eq n).symm) ?_
  refine lv_icmp_eq (tgt := 1441) hx hb dL_law_999 (by decide) (fun _ => ?_) (fun h => absurd rfl h)
  exact kk _ _ _ _ _ _ _ _ (by omega) ⟨hPo, hPm, hS, hR⟩ hl
set_option maxHeartbeats 4000000 in
set_option maxRecDepth 100000 in
theorem op_pairs {p : Program} {l : Launch} {e : Env} {s : State} {m : MethodId} {below : List Frame} {meth : Method} {c9 : Code} {H : Heap} {cells slots : Nat} {Q : State → Prop} {ls : Array Slot} {D : va_G} {b0 L : Nat} {xs : Nat → Int32} {cI cA cL : ClassId} {ad am : Nat → Nat} {K n : Nat} {x y : Nat → Nat → Int32} {o : Nat → Int64} {th : Int32} {i : Nat} (C0 : lwC p l s m c9 b0 L xs D cI cA cL ad am) (S0 : lwS s D cI cA cL ad am K n x y o th H) (hK30 : K < 2 ^ 30) (hroom : cells + 1 ≤ room_1.cells ∧ slots + 6 ≤ room_1.slots) (hi : i + 4 < L) (hl : lv_has ls 7 [(0, .ref b0), (1, .ref (ad 0)), (2, .ref (am 0)), (3, .ref (ad 46)), (4, .int (nI i))]) (kk : ∀ (K' n' : Nat) (x' y' : Nat → Nat → Int32) (o' : Nat → Int64) (th' : Int32) (H' : Heap) (ls' : Array Slot), K' ≤ K + 216 → lwS s D cI cA cL ad am K' n' x' y' o' th' H' → lv_has ls' 7 [(0, .ref b0), (1, .ref (ad 0)), (2, .ref (am 0)), (3, .ref (ad 46)), (4, .int (nI i))] → W p l e room_1 s m #[Value.ref b0] below meth c9 H' [] (cells + 1) (slots + 6) Q (F0 m 1441 ls' [])) : W p l e room_1 s m #[Value.ref b0] below meth c9 H [] cells slots Q (F0 m 1276 ls []) := by
  have hn9 : n ≤ 24 := S0.2.2.2.n24
  have hn : n ≤ 24 := hn9
  obtain ⟨hx, hb, hF, hK, hDo, hDm, hdis, hT, hXF, hC, hlt, hX, hbl, hL⟩ := C0
  obtain ⟨hPo, hPm, hS, hR⟩ := S0
  have hts := hF.2.2.2.2
  have hKm := hK.sub (tys' := [(cI, .int), (cA, .array .int)]) [0, 1] rfl
  have hAo : ∀ q, wA ad 46 q → s.heap.size ≤ q := fun q ⟨k, hk, eq⟩ => by rw [eq]; exact hDo.2 k (by omega)
  have hAm : ∀ q, wA am 8 q → s.heap.size ≤ q := fun q ⟨k, hk, eq⟩ => by rw [eq]; exact hDm.2 k hk
  refine W.widen (k := cells + 1) (n := slots + 6) (Nat.le_succ _) (Nat.le_add_right _ _) ?_
  refine lv_aload_n hx hb dL_law_1276 rfl (lv_at hl 1 rfl) ?_
  refine k_M (va_runV (As := []) (rest := []) hF (c_X3_pairs l D cI cA ad n x hn) (cwV 0 hts gL_law_X3_pairs rfl rfl rfl (by decide +kernel) ⟨(Nat.le_of_ble_eq_true rfl), (Nat.le_of_ble_eq_true rfl)⟩) (k_pre (oP_c hPo) hKm (oD_c hDo) hT (k := 0) (by decide) cF_0 rfl) rfl rfl hl.1 rfl (lv_room (Nat.le_of_ble_eq_true rfl)) dL_law_1277 ⟨hroom.1, hroom.2⟩) hAo (fun H1 hP1 hz hk9 => ?_)
  have hPo := oP_call hDo hPo hP1 hk9
  have hPm := lw_keep (fun j hj ⟨k, hk, eq⟩ => hdis k j (by omega) hj eq.symm) hPm hk9
  have hS := lw_S hAo hS hz hk9
  refine lv_aload_n hx hb dL_law_1280 rfl (lv_at hl 2 rfl) ?_
  refine k_M (va_runV (As := []) (rest := [.int (tlC x n)]) hF (c_X4_pairs l D cI cA am th n y (x 9) hn hR.grp) (cwV 0 hts gL_law_X4_pairs rfl rfl rfl (by decide +kernel) ⟨(Nat.le_of_ble_eq_true rfl), (Nat.le_of_ble_eq_true rfl)⟩) (k_pre hPm hKm hDm hT (k := 0) (by decide) mF_0 rfl) rfl rfl hl.1 rfl (lv_room (Nat.le_of_ble_eq_true rfl)) dL_law_1281 ⟨hroom.1, hroom.2⟩) hAm (fun H2 hPm hz hk9 => ?_)
  have hPo := lw_keep (fun j hj ⟨k, hk, eq⟩ => hdis j k hj hk eq) hPo hk9
  have hS := lw_S hAm hS hz hk9
  refine r_topi (show _ = tlC x n from (Rel_pairs hR hK30).2.symm) ?_
  refine lv_icmp_eq (tgt := 1441) hx hb dL_law_1284 (by decide) (fun _ => ?_) (fun h => absurd rfl h)
  exact kk _ _ _ _ _ _ _ _ (by omega) ⟨hPo, hPm, hS, (Rel_pairs hR hK30).1⟩ hl
