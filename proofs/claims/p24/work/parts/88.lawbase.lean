/-! THE LAW'S DEEDS: what stands all the time -/
theorem book_ok {k : Nat} (h : k < 3) : bookB (nI k) = true := by
  have h1 : ¬ nI k < 0 := nI_pos (by omega)
  have h2 : nI k < nI 3 := nI_lt h (by decide)
  simp [bookB, h1, h2]
theorem name_ok {k : Nat} (h : k < 32) : nameB (nI k) = true := by
  have h1 : ¬ nI k < 0 := nI_pos (by omega)
  have h2 : ¬ nI 32 ≤ nI k := nI_ge h (by decide)
  simp [nameB, h1, h2]
theorem nI_m3 {k : Nat} (h : k < 2 ^ 31) : ¬ nI k = (-3) := fun q => nI_pos h (by rw [q]; decide)
theorem Mp_same {n : Nat} {x x' : Nat → Nat → Int32} (h : ∀ a, a ≠ 12 → x' a = x a) : Mp n x' = Mp n x := by
  have e : Wf x' n = Wf x n := by
    funext a
    unfold Wf sgN
    simp only [sg_same h]
  unfold Mp
  rw [e]
def lwC (p : Program) (l : Launch) (s : State) (m : MethodId) (c : Code) (b L : Nat) (xs : Nat → Int32) (D : va_G) (cI cA : ClassId) (ad : Nat → Nat) : Prop :=
  p.tables.exec = Jvm.exec ∧ c.code = cL_law ∧ CallFix p m c cL_law 19 s #[Value.ref b] wsL_law RL ∧ va_K D vwCl [(cI, .int), (cA, .array .int)] s ∧ wD (fun q => s.heap.size ≤ q) ad 47 ∧ tF s ∧ xF (fun q => s.heap.size ≤ q) s ∧ xC s ∧ l.stackTraces = false ∧ va_X b L xs s s.heap ∧ b < s.heap.size ∧ L ≤ 260
section LWB
variable {p : Program} {l : Launch} {e : Env} {R : Room} {s : State} {m : MethodId} {args : Array Value} {below : List Frame} {meth : Method} {c : Code} {H : Heap} {locs : List Loc} {cells slots : Nat} {Q : State → Prop}
variable {cc : ByteArray} {pc : Nat} {ls : Array Slot} {rest : List Value}
theorem r_ifgtN (hx : p.tables.exec = Jvm.exec) (hb : c.code = cc) {a : Nat} {off : Int} {tgt : Nat} (ha : a < 2 ^ 31) (hdg : decode cc pc = .ok (.ifCond .gt off, 3)) (ht : (pc : Int) + off = (tgt : Int)) (kt : a ≠ 0 → W p l e R s m args below meth c H locs cells slots Q (F0 m tgt ls rest)) (kf : a = 0 → W p l e R s m args below meth c H locs cells slots Q (F0 m (pc + 3) ls rest)) : W p l e R s m args below meth c H locs cells slots Q (F0 m pc ls (.int (nI a) :: rest)) :=
  lv_if_gt hx hb hdg ht (fun h => kt (fun q => by rw [q, nI_0] at h; exact absurd h (by decide))) (fun h => kf (Classical.byContradiction fun q => h (by rw [← nI_0]; exact nI_lt (by omega) ha)))
theorem r_shrN (hx : p.tables.exec = Jvm.exec) (hb : c.code = cc) {a k r : Nat} (hdg : decode cc pc = .ok (.ishr, 1)) (ha : a < 2 ^ 31) (hk : ((nI k &&& 31).toBitVec.smod 32).toNat = k) (hr : a / 2 ^ k = r) (kk : W p l e R s m args below meth c H locs cells slots Q (F0 m (pc + 1) ls (.int (nI r) :: rest))) : W p l e R s m args below meth c H locs cells slots Q (F0 m pc ls (.int (nI k) :: .int (nI a) :: rest)) :=
  lv_ishr hx hb hdg (by rw [pk_shrN ha _ k hk, hr]; exact kk)
end LWB
