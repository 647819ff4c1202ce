/-! 'new int[n][m]': the outer array and its rows, one behind the other -/
theorem arrV_congr {c : ClassId} {N : Nat} {z z' : Nat → Value} (h : ∀ j, j < N → z j = z' j) : arrV c N z = arrV c N z' := by
  unfold arrV
  congr 1
  congr 1
  funext j
  exact h j.val j.isLt
theorem outer_V (c : ClassId) (N h0 : Nat) : ∀ i : Nat, Jvm.Free.Multi.outerC c N h0 i = arrV c N (fun j => va_rf (if j < i then some (h0 + 1 + j) else none))
  | 0 => by
    show ({ cls := c, slots := Array.replicate N .null, vm := .none } : Cell) = _
    rw [arrV_new]
    refine congrArg (arrV c N) (funext fun j => ?_)
    simp [va_rf]
  | i + 1 => by
    show (Jvm.Free.Multi.outerC c N h0 i).setSlot i (.ref (h0 + 1 + i)) = _
    rw [outer_V c N h0 i, arrV_store]
    refine congrArg (arrV c N) (funext fun j => ?_)
    by_cases e : j = i
    · subst e
      simp [updV, va_rf]
    · by_cases h : j < i
      · simp [updV, e, h, Nat.lt_succ_of_lt h]
      · simp [updV, e, h, show ¬ j < i + 1 by omega]
def xA (U : State) : Prop := (Cond.arrayOver (.array .int)).before #[] U = true
theorem xA.alike {s U : State} (hal : s.vm.Alike U.vm) (h : xA s) : xA U := Jvm.Stand.arrayOver_alikeB hal h
theorem xA.at {s : State} {a : Array Value} (h : xA s) : (Cond.arrayOver (.array .int)).before a s = true := Jvm.Stand.arrayOver_alikeB (Vm.Alike.refl s.vm) h
/-- the law's start: what the tables say of int[] and int[][] -/
theorem K_int {args : Array Value} {s : State} (h : (Cond.arrayClass .int).before args s = true) : ∃ cI, ArrOfT s cI .int ∧ va_RA s cI .int := by
  obtain ⟨c, k, comp, h1, h2, h3⟩ := Cond.arrayClass_spec h
  exact ⟨c, fun n z => ⟨fun k h => (by cases h), k, h2, comp, h3⟩, h1⟩
theorem K_arr {args : Array Value} {s : State} (h : (Cond.arrayOver (.array .int)).before args s = true) : ∃ cA, ArrOfT s cA (.array .int) ∧ va_RA s cA (.array .int) := by
  obtain ⟨comp, c, k, h1, h2, h3, h4, h5⟩ := Jvm.Stand.arrayOver_specB h
  exact ⟨c, fun n z => ⟨fun k h => (by cases h), k, h3, comp, h4⟩, h5⟩
def mnF (cI cA : ClassId) (ad : Nat → Nat) (f : Nat → va_E) (N n m : Nat) : Nat → va_E := fun k => if k < N then f k else if k = N then .inl (cA, n, .inr (.inr (.inr (.inr (fun i => some (ad (N + 1 + i))))))) else .inl (cI, m, .inl (fun _ => nI 0))
section MNA
variable {p : Program} {l : Launch} {e : Env} {R : Room} {s : State} {m : MethodId} {args : Array Value} {below : List Frame} {meth : Method} {c : Code} {H : Heap} {locs : List Loc} {cells slots : Nat} {Q : State → Prop}
variable {cc : ByteArray} {pc : Nat} {ls : Array Slot} {rest : List Value} {D : va_G} {ad : Nat → Nat} {f : Nat → va_E} {N : Nat}
theorem r_newA {cI cA : ClassId} (hx : p.tables.exec = Jvm.exec) (hb : c.code = cc) {own : String} {index : Nat} (hown : s.vm.findClass own = some m.cls) (hclink : (Cond.classLink own index "[[I").before args s = true) (hover : xA s) (harr : (Cond.arrayClass .int).before args s = true) (hcI : s.vm.findClass "[I" = some cI) (hcA : s.vm.findClass "[[I" = some cA) (hP : va_P D vwCl (wl ad f N) H) (hh : ∀ i, ad (N + i) = H.size + i) {n k : Nat} (hn : n < 2 ^ 10) (hk : k < 2 ^ 10) (hcells : cells + (1 + n) ≤ R.cells) (hslots : slots + (n + n * k) ≤ R.slots) (hdg : decode cc pc = .ok (.multianewarray index 2, 4))
    (kk : ∀ H1 : Heap, va_P D vwCl (wl ad (mnF cI cA ad f N n k) (N + 1 + n)) H1 → H1.size = H.size + 1 + n → (∀ q : Nat, q < H.size → H1[q]? = H[q]?) → W p l e R s m args below meth c H1 locs (cells + 1 + n) (slots + n + n * k) Q (F0 m (pc + 4) ls (.ref (ad N) :: rest))) : W p l e R s m args below meth c H locs cells slots Q (F0 m pc ls (.int (nI k) :: .int (nI n) :: rest)) := by
  intro T hT X
  have c1 : (nI n).toNatClampNeg = n := nI_clamp (by omega)
  have c2 : (nI k).toNatClampNeg = k := nI_clamp (by omega)
  obtain ⟨vm₁, cA', comp, -, fA, fC, -, -, X', step⟩ := X.multianewarray2F hx hown hclink hover.at harr (g := F0 m pc ls (.int (nI k) :: .int (nI n) :: rest)) rfl (by rw [hb]; exact hdg) rfl (nI_nn (by omega)) (nI_nn (by omega)) (by rw [c1]; omega) (by rw [c2]; show k * 4 ≤ 536870912; omega) (by rw [c2]; omega) rfl rfl (by rw [c1]; exact hcells) (by rw [c1, c2]; exact hslots)
  rw [c1, c2] at X' step
  have ec : some cI = some comp := hcI.symm.trans fC
  cases ec
  have ea : some cA = some cA' := hcA.symm.trans fA
  cases ea
  have hTh : (T.setVm vm₁).heap = H := hT
  generalize hF : Jvm.Free.Multi.fill (T.setVm vm₁) cA cI n k (defaultValue .int) n = F at X' step
  obtain ⟨f1, f2, -, -⟩ := Jvm.Free.Multi.fill_facts (T.setVm vm₁) cA cI n k (defaultValue .int) n
  rw [hF, hTh] at f1 f2
  have hold : ∀ x : Nat, x < H.size → F.heap[x]? = H[x]? := fun x hx => by
    have := Jvm.Free.Multi.fill_old (T.setVm vm₁) cA cI n k (defaultValue .int) (a := x) (by rw [hTh]; exact hx) n
    rw [hF, hTh] at this
    exact this
  have hrow : ∀ j : Nat, j < n → F.heap[H.size + 1 + j]? = some (arrV cI k (fun _ => .int (nI 0))) := fun j hj => by
    have := Jvm.Free.Multi.fill_inner (T.setVm vm₁) cA cI n k (defaultValue .int) n j hj
    rw [hF, hTh] at this
    rw [this]
    exact congrArg some (arrV_new cI k (.int (nI 0)))
  have h0 : ad N = H.size := hh 0
  have hP1 : va_P D vwCl (wl ad (mnF cI cA ad f N n k) (N + 1 + n)) F.heap := fun q r hq => by
    obtain ⟨h1, rfl⟩ := wl_of hq
    unfold mnF
    by_cases z : q < N
    · rw [if_pos z]
      have h2 := hP q _ (wl_at z)
      exact h2.kept (hold _ h2.lt)
    · rw [if_neg z]
      by_cases z2 : q = N
      · subst z2
        rw [if_pos rfl]
        show F.heap[ad q]? = some (vp_cell _ _)
        rw [h0, f2, outer_V, vp_cell_q]
        refine congrArg some (arrV_congr fun j hj => ?_)
        rw [if_pos hj, show q + 1 + j = q + (1 + j) by omega, hh, Nat.add_assoc]
      · rw [if_neg z2]
        show F.heap[ad q]? = some (vp_cell _ _)
        rw [show q = N + (1 + (q - N - 1)) by omega, hh, ← Nat.add_assoc, hrow _ (by omega), vp_cell_i]
  have eT : T.heap.size = ad N := by rw [hT, h0]
  obtain ⟨t, a1, b1⟩ := kk F.heap hP1 f1 hold F rfl X'
  refine ⟨t, step t ?_, b1⟩
  rw [eT]
  exact a1
end MNA
