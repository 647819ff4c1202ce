/-! THE START: both sides' numbers when they are made -/
def x0 : Nat → Nat → Int32 := fun k j => if k = 9 then (if j < 24 then bit j else nI 0) else if 22 ≤ k then (if j < 24 then -1 else nI 0) else nI 0
def y0 : Nat → Nat → Int32 := fun _ _ => nI 0
theorem x0_0 {k : Nat} (h : k ≠ 9) (h2 : k < 22) : x0 k = fun _ => nI 0 := by
  funext j
  unfold x0
  rw [if_neg h, if_neg (by omega)]
theorem x0_9 : x0 9 = fun j => if j < 24 then bit j else nI 0 := rfl
theorem x0_22 {k : Nat} (h : 22 ≤ k) : x0 k = fun j => if j < 24 then -1 else nI 0 := by
  funext j
  unfold x0
  rw [if_neg (by omega), if_pos h]
theorem Rel_start : Rel 0 0 x0 y0 := by
  refine ⟨by omega, ⟨fun c hc => absurd hc (Nat.not_lt_zero _), fun c v hc => absurd hc (Nat.not_lt_zero _), fun c v k hc hv hk => ?_⟩, ⟨fun c hc => ?_, fun c j hc hj q => ?_, fun c hc => absurd hc (Nat.not_lt_zero _), fun c _ hc => ?_⟩, fun _ => 0, fun c hc => ?_, fun c hc => ?_, fun a b ha hb => ?_⟩
  · rw [x0_0 (by omega) (by omega)]
    exact ⟨rfl, 0, by decide, rfl⟩
  · rw [x0_0 (by decide) (by decide)]; rfl
  · rw [x0_0 (by decide) (by decide), hb_0 hj] at q
    cases q
  · rw [x0_9]
    exact if_pos hc
  · rw [x0_0 (by decide) (by decide)]; rfl
  · rw [x0_0 (by decide) (by decide)]
    exact ⟨rfl, Nat.le_refl _⟩
  · left
    rw [x0_22 (by omega)]
    refine ⟨if_pos hb, ?_⟩
    show hasB (nI 0) b = false
    exact hb_0 (by omega)
/-! things made one behind the other: cell N comes where the heap ends -/
section NEW
variable {p : Program} {l : Launch} {e : Env} {R : Room} {s : State} {m : MethodId} {args : Array Value} {below : List Frame} {meth : Method} {c : Code} {H : Heap} {locs : List Loc} {cells slots : Nat} {Q : State → Prop}
variable {cc : ByteArray} {pc : Nat} {ls : Array Slot} {rest st0 : List Value} {D : va_G} {A : Nat → Prop} {tys : List (ClassId × FieldType)} {H0 : Heap} {ad : Nat → Nat} {f f' : Nat → va_E} {N : Nat}
theorem wl_push {e0 : va_E} (h : va_P D vwCl (wl ad f N) H) {H1 : Heap} (hold : ∀ q : Nat, q < H.size → H1[q]? = H[q]?) (hnew : va_at D vwCl (ad N, e0) H1) : va_P D vwCl (wl ad (va_up f N e0) (N + 1)) H1 := fun k q hk => by
  obtain ⟨h1, rfl⟩ := wl_of hk
  by_cases e : k = N
  · subst e
    rw [va_up_self]
    exact hnew
  · rw [va_up_ne _ _ e]
    have h2 := h k _ (wl_at (show k < N by omega))
    exact h2.kept (hold _ h2.lt)
/-- new int[n] -/
theorem r_newI {cI : ClassId} (hx : p.tables.exec = Jvm.exec) (hb : c.code = cc) (harr : (Cond.arrayClass .int).before args s = true) (hcI : s.vm.findClass "[I" = some cI) (hP : va_P D vwCl (wl ad f N) H) (hh : H.size = ad N) {n : Nat} (hn : n < 2 ^ 20) (hcells : cells + 1 ≤ R.cells) (hslots : slots + n ≤ R.slots) (hdg : decode cc pc = .ok (.newarray .int, 2))
    (kk : ∀ H1 : Heap, va_P D vwCl (wl ad (va_up f N (.inl (cI, n, .inl (fun _ => nI 0)))) (N + 1)) H1 → H1.size = H.size + 1 → (∀ q : Nat, q < H.size → H1[q]? = H[q]?) → ArrOfT s cI .int → W p l e R s m args below meth c H1 locs (cells + 1) (slots + n) Q (F0 m (pc + 2) ls (.ref (ad N) :: rest))) : W p l e R s m args below meth c H locs cells slots Q (F0 m pc ls (.int (nI n) :: rest)) := by
  refine va_newaK (atype := .int) (N := n) hx hb harr (g := F0 m pc ls (.int (nI n) :: rest)) rfl hdg rfl (nI_nn (by omega)) (nI_clamp (by omega)) (by show n * 4 ≤ 536870912; omega) hcells hslots hh (fun H1 cA h1 h2 h3 h4 h5 => ?_)
  have ec : some cI = some cA := hcI.symm.trans h5
  cases ec
  exact kk H1 (wl_push hP (fun q hq => h3 q (by omega)) h1) (by omega) (fun q hq => h3 q (by omega)) h4
end NEW
