/-! THE LAW'S LOOP: what stands all the time, the state at its head, its calls -/
def lwC (p : Program) (l : Launch) (s : State) (m : MethodId) (c : Code) (b L : Nat) (xs : Nat → Int32) (D : va_G) (cI cA cL : ClassId) (ad am : Nat → Nat) : Prop :=
  p.tables.exec = Jvm.exec ∧ c.code = code ∧ CallFix p m c code 7 s #[Value.ref b] wsL_law RL ∧ va_K D vwCl [(cI, .int), (cA, .array .int), (cL, .long)] s ∧ wD (fun q => s.heap.size ≤ q) ad 47 ∧ wD (fun q => s.heap.size ≤ q) am 8 ∧ (∀ i j, i < 47 → j < 8 → ad i ≠ am j) ∧ tF s ∧ xF (fun q => s.heap.size ≤ q) s ∧ xC s ∧ l.stackTraces = false ∧ va_X b L xs s s.heap ∧ b < s.heap.size ∧ L ≤ 2560
def lwS (s : State) (D : va_G) (cI cA cL : ClassId) (ad am : Nat → Nat) (K n : Nat) (x y : Nat → Nat → Int32) (o : Nat → Int64) (th : Int32) (H : Heap) : Prop :=
  va_P D vwCl (wl ad (oF cI cA cL ad n x o) 47) H ∧ va_P D vwCl (wl am (mF cI am th n y) 8) H ∧ va_S (fun q => s.heap.size ≤ q) s.heap H [] ∧ Rel K n x y
theorem rfg_9 {x : Nat → Nat → Int32} {c d : Nat} : rfgX x c d 9 = x 9 := by funext i; unfold rfgX; rw [up2_k (by decide), up2_k (by decide)]
theorem rfn_9 {x : Nat → Nat → Int32} {c d : Nat} {w : Int32} : rfnX x c d w 9 = x 9 := by funext i; unfold rfnX; rw [up2_k (by omega), up2_k (by omega)]
section LWB
variable {p : Program} {l : Launch} {e : Env} {R : Room} {s : State} {m : MethodId} {args : Array Value} {below : List Frame} {meth : Method} {c : Code} {H H1 : Heap} {locs : List Loc} {cells slots : Nat} {Q : State → Prop}
variable {cc : ByteArray} {pc : Nat} {ls : Array Slot} {rest st0 : List Value} {D : va_G} {b L : Nat} {xs : Nat → Int32} {cI cA cL : ClassId} {ad am : Nat → Nat} {K n n' : Nat} {x y x' y' : Nat → Nat → Int32} {o o' : Nat → Int64} {th th' : Int32} {f f' : Nat → va_E} {N : Nat}
theorem r_sld (hx : p.tables.exec = Jvm.exec) (hb : c.code = code) (hX : va_X b L xs s s.heap) (hbl : b < s.heap.size) (hL : L ≤ 2560) (hS : va_S (fun q => s.heap.size ≤ q) s.heap H []) {i : Nat} (hi : i < L) {v : Int32} (ev : xs i = v) (hdg : decode code pc = .ok (.iaload, 1))
    (kk : W p l e R s m args below meth c H [] cells slots Q (F0 m (pc + 1) ls (.int v :: rest))) : W p l e R s m args below meth c H [] cells slots Q (F0 m pc ls (.int (nI i) :: .ref b :: rest)) :=
  va_sld hx hb hX hbl (Nat.not_le.mpr hbl) hS (vp_in_nI hi (by omega)) hdg (by rw [nI_clamp (by omega), ev]; exact kk)
theorem r_lcmpE (hx : p.tables.exec = Jvm.exec) (hb : c.code = code) {v : Int64} (hdg : decode code pc = .ok (.lcmp, 1))
    (kk : W p l e R s m args below meth c H locs cells slots Q (F0 m (pc + 1) ls (.int (nI 0) :: rest))) : W p l e R s m args below meth c H locs cells slots Q (F0 m pc ls (.long v :: .long v :: rest)) :=
  W.lcmp hx hb hdg (by
    rw [show lg_cmp v v = nI 0 from by simp [lg_cmp, nI_0]]
    exact kk)
/-- 'v != 0' as an argument -/
theorem r_nz (hx : p.tables.exec = Jvm.exec) (hb : c.code = code) {v : Int32} {g : Bool} (hg : decide (v ≠ 0) = g) {T0 J : Nat} {off off2 : Int} (d1 : decode code pc = .ok (.ifCond .eq off, 3)) (h1 : (pc : Int) + off = (T0 : Int)) (d2 : decode code (pc + 3) = .ok (.iconst 1, 1)) (d3 : decode code (pc + 3 + 1) = .ok (.goto off2, 3)) (h3 : ((pc + 3 + 1 : Nat) : Int) + off2 = (J : Int)) (d4 : decode code T0 = .ok (.iconst 0, 1)) (h4 : T0 + 1 = J)
    (kk : W p l e R s m args below meth c H locs cells slots Q (F0 m J ls (.int (bI g) :: rest))) : W p l e R s m args below meth c H locs cells slots Q (F0 m pc ls (.int v :: rest)) := by
  subst hg
  refine lv_if_eq hx hb d1 h1 (fun h => ?_) (fun h => ?_)
  · refine lv_iconst (v := bI (decide (v ≠ 0))) hx hb d4 (by rw [decide_eq_false (fun q => q h)]; decide) ?_
    rw [h4]; exact kk
  · refine lv_iconst (v := bI (decide (v ≠ 0))) hx hb d2 (by rw [decide_eq_true h]; decide) ?_
    exact lv_goto hx hb d3 h3 kk
/-- behind a wrapper's call -/
theorem k_L {r : Int32} {av : Array Value} (hr : va_Run p l e R s m args below meth c H [] cells slots 1 6 (F0 m pc ls st0) rest (qO D ad f' N r av) (wA ad N)) (hA : ∀ q, wA ad N q → s.heap.size ≤ q)
    (kk : ∀ H1 : Heap, va_P D vwCl (wl ad f' N) H1 → H.size ≤ H1.size → (∀ q : Nat, q < H.size → ¬ wA ad N q → H1[q]? = H[q]?) → W p l e R s m args below meth c H1 [] (cells + 1) (slots + 6) Q (F0 m (pc + 3) ls (.int r :: rest))) : W p l e R s m args below meth c H [] cells slots Q (F0 m pc ls st0) := by
  intro T hT X
  obtain ⟨v, st₀, t, T', L, h0, X', hL, e1, e2, ⟨hv, hP1, hz, hk⟩, st⟩ := hr T hT X
  cases hv
  rw [h0] at hz hk
  obtain ⟨t2, a1, b1⟩ := va_forget (locs := [] ++ L) (fun q hq => hA _ (hL q (by simpa using hq))) (kk T'.heap (by rw [e1]; exact hP1) (by rw [e1]; exact hz) (fun q h1 h2 => by rw [e1]; exact hk q h1 h2)) T' rfl X'
  exact ⟨t2, st t2 a1, b1⟩
/-- behind a call of the reference, or of the class itself -/
theorem k_M {r : Int32} {av : Array Value} (hr : va_Run p l e R s m args below meth c H [] cells slots 0 0 (F0 m pc ls st0) rest (qW D ad f' N (some (.int r)) av) (wA ad N)) (hA : ∀ q, wA ad N q → s.heap.size ≤ q)
    (kk : ∀ H1 : Heap, va_P D vwCl (wl ad f' N) H1 → H.size ≤ H1.size → (∀ q : Nat, q < H.size → ¬ wA ad N q → H1[q]? = H[q]?) → W p l e R s m args below meth c H1 [] cells slots Q (F0 m (pc + 3) ls (.int r :: rest))) : W p l e R s m args below meth c H [] cells slots Q (F0 m pc ls st0) := by
  intro T hT X
  obtain ⟨v, st₀, t, T', L, h0, X', hL, e1, e2, ⟨hv, hP1, ⟨hz, hk⟩, hsz⟩, st⟩ := hr T hT X
  cases hv
  rw [h0] at hz hk hsz
  obtain ⟨t2, a1, b1⟩ := va_forget (locs := [] ++ L) (fun q hq => hA _ (hL q (by simpa using hq))) (kk T'.heap (by rw [e1]; exact hP1) (by rw [e1]; exact hz) (fun q h1 h2 => by rw [e1]; exact hk q h1 h2)) T' rfl X'
  exact ⟨t2, st t2 a1, b1⟩
theorem lw_S {B : Nat → Prop} (hA : ∀ q, B q → s.heap.size ≤ q) (hS : va_S (fun q => s.heap.size ≤ q) s.heap H []) (hz : H.size ≤ H1.size) (hk : ∀ q : Nat, q < H.size → ¬ B q → H1[q]? = H[q]?) : va_S (fun q => s.heap.size ≤ q) s.heap H1 [] :=
  ⟨Nat.le_trans hS.1 hz, fun q h1 h2 => (hk q (Nat.lt_of_lt_of_le h1 hS.1) (fun z => h2 (hA q z))).trans (hS.2.1 q h1 h2), fun _ h => by cases h⟩
theorem lw_keep {B : Nat → Prop} (hd : ∀ j, j < N → ¬ B (ad j)) (hP : va_P D vwCl (wl ad f N) H) (hk : ∀ q : Nat, q < H.size → ¬ B q → H1[q]? = H[q]?) : va_P D vwCl (wl ad f N) H1 := hP.kept fun k q h => by
  have hlt := (hP _ _ h).lt
  obtain ⟨h1, rfl⟩ := wl_of h
  exact hk _ hlt (hd k h1)
theorem lw_pre (hK : va_K D vwCl [(cI, .int), (cA, .array .int), (cL, .long)] s) (hD : wD (fun q => s.heap.size ≤ q) ad 47) (hT : tF s) (hXF : xF (fun q => s.heap.size ≤ q) s) (hC : xC s) (hP : va_P D vwCl (wl ad (oF cI cA cL ad n x o) 47) H) (hS : va_S (fun q => s.heap.size ≤ q) s.heap H []) {As : List Value} : PreS s H (va_Pc As (wO D cI cA cL ad n x o)) As :=
  ⟨wO.blind, fun U hU hW => ⟨rfl, by rw [hU]; exact hP, va_K.moved hW.alike hK, hD.any (fun _ _ => trivial), hT.warm hW, hXF.of hU hW hS.2.1 (fun q ⟨k, hk, eq⟩ => by rw [eq]; exact hD.2 k hk), hC.warm hW⟩⟩
end LWB
