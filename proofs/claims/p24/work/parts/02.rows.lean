/-! WORLDS BY AN INDEX MAP: cell i of n lies at ad i and holds f i -/
def wl (ad : Nat → Nat) (f : Nat → va_E) (n : Nat) : va_W := (List.range n).map (fun i => (ad i, f i))
theorem wl_at {ad : Nat → Nat} {f : Nat → va_E} {n k : Nat} (h : k < n) : (wl ad f n)[k]? = some (ad k, f k) := by
  unfold wl
  rw [List.getElem?_map, List.getElem?_range h]
  rfl
theorem wl_len {ad : Nat → Nat} {f : Nat → va_E} {n : Nat} : (wl ad f n).length = n := by simp [wl]
theorem wl_of {ad : Nat → Nat} {f : Nat → va_E} {n k : Nat} {q : Nat × va_E} (h : (wl ad f n)[k]? = some q) : k < n ∧ q = (ad k, f k) := by
  have hl := (List.getElem?_eq_some_iff.mp h).1
  rw [wl_len] at hl
  rw [wl_at hl] at h
  exact ⟨hl, (Option.some.inj h).symm⟩
theorem wl_set {ad : Nat → Nat} {f : Nat → va_E} {n k : Nat} (e : va_E) (h : k < n) : (wl ad f n).set k (ad k, e) = wl ad (va_up f k e) n := by
  apply List.ext_getElem?
  intro j
  by_cases hj : j = k
  · subst hj
    rw [List.getElem?_set_self (by rw [wl_len]; exact h), wl_at h, va_up_self]
  · rw [List.getElem?_set_ne (Ne.symm hj)]
    by_cases hjn : j < n
    · rw [wl_at hjn, wl_at hjn, va_up_ne _ _ hj]
    · rw [List.getElem?_eq_none (by rw [wl_len]; omega), List.getElem?_eq_none (by rw [wl_len]; omega)]
/-- the addresses are apart, and of a kind -/
def wD (A : Nat → Prop) (ad : Nat → Nat) (n : Nat) : Prop := (∀ i j, i < n → j < n → ad i = ad j → i = j) ∧ ∀ k, k < n → A (ad k)
theorem wD.to {A : Nat → Prop} {ad : Nat → Nat} {n : Nat} (h : wD A ad n) (f : Nat → va_E) : va_D A (wl ad f n) := by
  refine ⟨fun i j p q hi hj e => ?_, fun k q hk => ?_⟩
  · obtain ⟨h1, rfl⟩ := wl_of hi
    obtain ⟨h2, rfl⟩ := wl_of hj
    exact h.1 i j h1 h2 e
  · obtain ⟨h1, rfl⟩ := wl_of hk
    exact h.2 k h1
theorem wD.any {A B : Nat → Prop} {ad : Nat → Nat} {n : Nat} (h : wD A ad n) (hB : ∀ k, k < n → B (ad k)) : wD B ad n := ⟨h.1, hB⟩
def wA (ad : Nat → Nat) (n : Nat) : Nat → Prop := fun q => ∃ k, k < n ∧ q = ad k
theorem wA.in {ad : Nat → Nat} {n k : Nat} (h : k < n) : wA ad n (ad k) := ⟨k, h, rfl⟩
/-- what the tables say beside the good words: the nest mates' links -/
def tF (U : State) : Prop := va_Nw (.fieldLinkNest RX3 46 RX0 "count" "I" RX3) U ∧ va_Nw (.methodLinkNest RX0 34 yX3_has RX3) U ∧ va_Nw (.methodLinkNest RX1 18 yX3_has RX3) U ∧ va_Nw (.methodLinkNest RX2 20 yX3_has RX3) U
theorem tF.warm {s U : State} (hW : s.WarmedH U.vm) (h : tF s) : tF U := ⟨va_Nw.warmF hW h.1, va_Nw.warmM hW h.2.1, va_Nw.warmM hW h.2.2.1, va_Nw.warmM hW h.2.2.2⟩
/-- a method's start: the world f of n cells -/
def pX (D : va_G) (tys : List (ClassId × FieldType)) (ad : Nat → Nat) (f : Nat → va_E) (n : Nat) (U : State) : Prop := va_P D vwCl (wl ad f n) U.heap ∧ va_K D vwCl tys U ∧ wD (fun _ => True) ad n ∧ tF U
theorem pX.blind {D : va_G} {tys : List (ClassId × FieldType)} {ad : Nat → Nat} {f : Nat → va_E} {n : Nat} {As : List Value} : FrameBlind (va_Pc As (pX D tys ad f n)) := by
  intro a U g mk ⟨h1, hP, hK, hD, hT⟩
  exact ⟨h1, hP, va_K.moved (u := U) (U := U.calling g mk a) (Vm.Alike.refl U.vm) hK, hD, hT⟩
theorem pX.of {D : va_G} {tys : List (ClassId × FieldType)} {ad : Nat → Nat} {f : Nat → va_E} {n : Nat} {A : Nat → Prop} {s : State} {H : Heap} (hP : va_P D vwCl (wl ad f n) H) (hK : va_K D vwCl tys s) (hD : wD A ad n) (hT : tF s) : ∀ U : State, U.heap = H → s.WarmedH U.vm → pX D tys ad f n U :=
  fun U hU hW => ⟨by rw [hU]; exact hP, va_K.moved hW.alike hK, hD.any (fun _ _ => trivial), hT.warm hW⟩
theorem tt.blind {As : List Value} : FrameBlind (va_Pc As (fun _ => True)) := fun _ _ _ _ h => h
/-- returns r, and the heap is as it was -/
def qR (r : Option Value) : Array Value → State → Outcome → State → Prop := fun _ st o t => o = .returned r ∧ t.heap = st.heap
/-- returns r, the world is f, nothing else has changed -/
def qW (D : va_G) (ad : Nat → Nat) (f : Nat → va_E) (n : Nat) (r : Option Value) : Array Value → State → Outcome → State → Prop := fun _ st o t => o = .returned r ∧ va_P D vwCl (wl ad f n) t.heap ∧ va_F (wA ad n) st t ∧ t.heap.size = st.heap.size
def nF : Addr → Prop := fun _ => False
/-- since H0 the world's cells alone have changed, and none is new -/
def sS (A : Nat → Prop) (H0 H : Heap) (locs : List Loc) : Prop := va_S A H0 H locs ∧ H.size = H0.size
theorem sS.rf {A : Nat → Prop} {H0 : Heap} : sS A H0 H0 [] := ⟨va_S.rf, rfl⟩
section CMR
variable {p : Program} {l : Launch} {e : Env} {R : Room} {s : State} {m : MethodId} {args : Array Value} {below : List Frame} {meth : Method} {c : Code} {H : Heap} {locs : List Loc} {cells slots : Nat} {Q : State → Prop}
variable {cc : ByteArray} {pc : Nat} {ls : Array Slot} {rest st0 : List Value} {D : va_G} {A : Nat → Prop} {tys : List (ClassId × FieldType)} {H0 : Heap} {ad : Nat → Nat} {f f' : Nat → va_E} {N : Nat}
theorem r_top {v v' : Value} (h : v = v') (kk : W p l e R s m args below meth c H locs cells slots Q (F0 m pc ls (v' :: rest))) : W p l e R s m args below meth c H locs cells slots Q (F0 m pc ls (v :: rest)) := by rw [h]; exact kk
theorem r_topi {x x' : Int32} (h : x = x') (kk : W p l e R s m args below meth c H locs cells slots Q (F0 m pc ls (.int x' :: rest))) : W p l e R s m args below meth c H locs cells slots Q (F0 m pc ls (.int x :: rest)) := by rw [h]; exact kk
theorem r_addN (hx : p.tables.exec = Jvm.exec) (hb : c.code = cc) {a b r : Nat} (hdg : decode cc pc = .ok (.iadd, 1)) (hr : a + b = r) (kk : W p l e R s m args below meth c H locs cells slots Q (F0 m (pc + 1) ls (.int (nI r) :: rest))) : W p l e R s m args below meth c H locs cells slots Q (F0 m pc ls (.int (nI b) :: .int (nI a) :: rest)) := lv_iadd hx hb hdg (by rw [nI_add, hr]; exact kk)
theorem r_mulN (hx : p.tables.exec = Jvm.exec) (hb : c.code = cc) {a b r : Nat} (hdg : decode cc pc = .ok (.imul, 1)) (hr : a * b = r) (kk : W p l e R s m args below meth c H locs cells slots Q (F0 m (pc + 1) ls (.int (nI r) :: rest))) : W p l e R s m args below meth c H locs cells slots Q (F0 m pc ls (.int (nI b) :: .int (nI a) :: rest)) := lv_imul hx hb hdg (by rw [pk_mul, hr]; exact kk)
theorem r_subN (hx : p.tables.exec = Jvm.exec) (hb : c.code = cc) {a b r : Nat} (hdg : decode cc pc = .ok (.isub, 1)) (hle : b ≤ a) (hr : a - b = r) (kk : W p l e R s m args below meth c H locs cells slots Q (F0 m (pc + 1) ls (.int (nI r) :: rest))) : W p l e R s m args below meth c H locs cells slots Q (F0 m pc ls (.int (nI b) :: .int (nI a) :: rest)) := lv_isub hx hb hdg (by rw [pk_sub hle, hr]; exact kk)
theorem r_iincN (hx : p.tables.exec = Jvm.exec) (hb : c.code = cc) {i nL k : Nat} {d a r : Nat} {lv lv' : List (Nat × Value)} (hdg : decode cc pc = .ok (.iinc i (d : Int), 3)) (h : lv_has ls nL lv) (hk : lv[k]? = some (i, .int (nI a))) (hr : a + d = r) (hn : i < nL) (hl : (i, Value.int (nI r)) :: lv.filter (fun q => !(q.1 == i) && !(q.1 + 1 == i && q.2.category == 2)) = lv')
    (kk : ∀ ls' : Array Slot, lv_has ls' nL lv' → W p l e R s m args below meth c H locs cells slots Q (F0 m (pc + 3) ls' rest)) : W p l e R s m args below meth c H locs cells slots Q (F0 m pc ls rest) :=
  lv_iinc hx hb hdg h hk (by rw [← hr, ← nI_add]; rfl) hn hl kk
/-- an int array's element, by a number -/
theorem r_iald (hx : p.tables.exec = Jvm.exec) (hb : c.code = cc) (hK : va_K D vwCl tys s) (hP : va_P D vwCl (wl ad f N) H) (k t0 : Nat) (hk : k < N) {cA : ClassId} {n : Nat} {g : Nat → Int32} (ha : f k = .inl (cA, n, .inl g)) (ht : tys[t0]? = some (cA, .int)) {i : Nat} (hi : i < n) (hn : n < 2 ^ 31) (hdg : decode cc pc = .ok (.iaload, 1))
    (kk : W p l e R s m args below meth c H locs cells slots Q (F0 m (pc + 1) ls (.int (g i) :: rest))) : W p l e R s m args below meth c H locs cells slots Q (F0 m pc ls (.int (nI i) :: .ref (ad k) :: rest)) :=
  va_iald hx hb hK hP k t0 ((wl_at hk).trans (by rw [ha])) ht (vp_in_nI hi hn) hdg (by rw [nI_clamp (by omega)]; exact kk)
theorem r_iast (hx : p.tables.exec = Jvm.exec) (hb : c.code = cc) (hK : va_K D vwCl tys s) (hP : va_P D vwCl (wl ad f N) H) (hD : wD A ad N) (hS : sS A H0 H locs) (k t0 : Nat) (hk : k < N) {cA : ClassId} {n : Nat} {g : Nat → Int32} (ha : f k = .inl (cA, n, .inl g)) (ht : tys[t0]? = some (cA, .int)) {i : Nat} (hi : i < n) (hn : n < 2 ^ 31) {x : Int32} (hf : va_up f k (.inl (cA, n, .inl (upd g i x))) = f') (hdg : decode cc pc = .ok (.iastore, 1))
    (kk : ∀ (H1 : Heap) (locs1 : List Loc), va_P D vwCl (wl ad f' N) H1 → sS A H0 H1 locs1 → W p l e R s m args below meth c H1 locs1 cells slots Q (F0 m (pc + 1) ls rest)) : W p l e R s m args below meth c H locs cells slots Q (F0 m pc ls (.int x :: .int (nI i) :: .ref (ad k) :: rest)) := by
  have he : (wl ad f N)[k]? = some (ad k, .inl (cA, n, .inl g)) := (wl_at hk).trans (by rw [ha])
  refine W.iast hx hb (hP k _ he) ((hK.2 t0 _ ht).1 n (fun j => .int (g j))) (fun q => by cases q) (by show ¬ (nI i < 0 ∨ (arrV _ _ _).slots.size ≤ _); rw [arrV_size]; exact vp_in_nI hi hn) rfl rfl hdg fun H1 e1 z oq => ?_
  have hat : va_at D vwCl (ad k, .inl (cA, n, .inl (upd g i x))) H1 := by
    show H1[ad k]? = some (vp_cell _ _)
    rw [e1]
    rw [vp_cell_i, vp_cell_i, arrV_store, nI_clamp (by omega)]
    congr 2
    funext q
    by_cases hq : q = i
    · subst hq
      simp [updV, upd]
    · simp [updV, upd, hq]
  have h1 := hP.set (hD.to f) he hat oq
  rw [wl_set _ hk, hf] at h1
  exact kk H1 _ h1 ⟨hS.1.put z oq (hD.2 k hk), z.trans hS.2⟩
/-- a row of an array of arrays, by a number -/
theorem r_aald (hx : p.tables.exec = Jvm.exec) (hb : c.code = cc) (hK : va_K D vwCl tys s) (hP : va_P D vwCl (wl ad f N) H) (k t0 : Nat) (hk : k < N) {cA : ClassId} {n : Nat} {g : Nat → Nat} (ha : f k = .inl (cA, n, .inr (.inr (.inr (.inr (fun j => some (ad (g j)))))))) (ht : tys[t0]? = some (cA, .array .int)) {i : Nat} (hi : i < n) (hn : n < 2 ^ 31) (hdg : decode cc pc = .ok (.aaload, 1))
    (kk : W p l e R s m args below meth c H locs cells slots Q (F0 m (pc + 1) ls (.ref (ad (g i)) :: rest))) : W p l e R s m args below meth c H locs cells slots Q (F0 m pc ls (.int (nI i) :: .ref (ad k) :: rest)) := by
  have he : (wl ad f N)[k]? = some (ad k, .inl (cA, n, .inr (.inr (.inr (.inr (fun j => some (ad (g j)))))))) := (wl_at hk).trans (by rw [ha])
  refine W.aald (v := .ref (ad (g i))) (ty := .array .int) hx hb (hP k _ he) ((hK.2 t0 _ ht).1 n (fun j => va_rf (some (ad (g j))))) rfl (fun q => by cases q) (by show ¬ (nI i < 0 ∨ (arrV _ _ _).slots.size ≤ _); rw [arrV_size]; exact vp_in_nI hi hn) ?_ rfl rfl hdg kk
  show (arrV _ _ _).slots[_]? = _
  rw [nI_clamp (by omega), arrV_read _ _ hi]
  rfl
/-- a field -/
theorem r_get (hx : p.tables.exec = Jvm.exec) (hb : c.code = cc) {own C : String} {T : u_T} {M ci index : Nat} {Ts : List Cond} (hts : ∀ w ∈ Ts, w.before args s = true) (hin : ∀ w ∈ u_ws C T M, w ∈ Ts) (hown : s.vm.findClass own = some m.cls) (hK : va_K D vwCl tys s) (hP : va_P D vwCl (wl ad f N) H) (k : Nat) (hk : k < N) {fs : List Value} (ha : f k = .inr (ci, fs)) (hc : vwCl[ci]? = some (C, T, M)) (j : Nat) (hj : j < M) {fd fo : String} (hfo : T j = (C, fd, fo, (T j).2.2.2)) (hlink : Cond.fieldLink own index C fd fo ∈ Ts) {v : Value} (hv : fs[j]? = some v) (hdg : decode cc pc = .ok (.getfield index, 3))
    (kk : W p l e R s m args below meth c H locs cells slots Q (F0 m (pc + 3) ls (v :: rest))) : W p l e R s m args below meth c H locs cells slots Q (F0 m pc ls (.ref (ad k) :: rest)) := by
  have e1 : (T j).1 = C := by rw [hfo]
  have e2 : (T j).2.1 = fd := by rw [hfo]
  have e3 : (T j).2.2.1 = fo := by rw [hfo]
  exact va_get (ref := C) (ci := ci) (T := T) (N := M) hx hb hts hin hown hK hP k ((wl_at hk).trans (by rw [ha])) hc j hj (by rw [e2, e3]; exact hts _ hlink) (by rw [e1]; exact fun _ h => h) hv hdg kk
theorem r_put (hx : p.tables.exec = Jvm.exec) (hb : c.code = cc) {own C : String} {T : u_T} {M ci index : Nat} {Ts : List Cond} (hts : ∀ w ∈ Ts, w.before args s = true) (hin : ∀ w ∈ u_ws C T M, w ∈ Ts) (ty0 : Nat → FieldType) (hty : ∀ k, k < M → parseFieldDescriptor (T k).2.2.1 = some (ty0 k)) (hnm : ∀ a, a < M → ∀ b, b < M → a ≠ b → (T a).2.1 ≠ (T b).2.1) (hown : s.vm.findClass own = some m.cls) (hK : va_K D vwCl tys s) (hP : va_P D vwCl (wl ad f N) H) (hD : wD A ad N) (hS : sS A H0 H locs) (k : Nat) (hk : k < N) {fs : List Value} (ha : f k = .inr (ci, fs)) (hc : vwCl[ci]? = some (C, T, M)) (j : Nat) (hj : j < M) {fd : String} (hfo : T j = (C, fd, "I", false)) (hlink : Cond.fieldLink own index C fd "I" ∈ Ts) (hl : j < fs.length) {x : Int32} (hf : va_up f k (.inr (ci, fs.set j (.int x))) = f') (hdg : decode cc pc = .ok (.putfield index, 3))
    (kk : ∀ (H1 : Heap) (locs1 : List Loc), va_P D vwCl (wl ad f' N) H1 → sS A H0 H1 locs1 → W p l e R s m args below meth c H1 locs1 cells slots Q (F0 m (pc + 3) ls rest)) : W p l e R s m args below meth c H locs cells slots Q (F0 m pc ls (.int x :: .ref (ad k) :: rest)) := by
  have e1 : (T j).1 = C := by rw [hfo]
  have e2 : (T j).2.1 = fd := by rw [hfo]
  have e3 : (T j).2.2.1 = "I" := by rw [hfo]
  have he : (wl ad f N)[k]? = some (ad k, .inr (ci, fs)) := (wl_at hk).trans (by rw [ha])
  have hap := va_apart (own := own) hts hin ty0 hty hnm hK hc
  obtain ⟨r, h1, cell, q1, q2, q3, q4⟩ := hP k _ he
  have hr : r = (C, T, M) := Option.some.inj (h1.symm.trans hc)
  subst hr
  obtain ⟨hSl, hfc, kC, hkC, hkind⟩ := hK.1 ci _ hc
  obtain ⟨cf, kf, fi, fl, hi, hsl⟩ := hSl j hj
  have hlay := hts _ (hin _ (u_in_lay hj))
  unfold u_lay at hlay
  rw [if_neg (by rw [hfo]; exact Bool.false_ne_true)] at hlay
  have hst := (u_facts hfc hkC (u_lays hts hin hj) hi).1
  have h6 := u_store (v := .int x) (ty := .int) hfc hkC hkind hlay hi (by rw [e3]; decide +kernel) rfl rfl
  refine W.putK hx hb (own := own) (ref := C) (f := fl) ⟨hown, hts _ hlink, ⟨_, _, _, by rw [← e1, ← e2, ← e3]; exact hi⟩, hst⟩ (by rw [q2]; exact h6) q1 q3 (by rw [hsl]; exact k2_hasslot (q4 j hj)) rfl rfl hdg fun H' g1 g2 g3 => ?_
  rw [hsl] at g1
  have h2 := hP.set (hD.to f) he (e := .inr (ci, fs.set j (.int x))) ⟨_, hc, t_OB.to (V := updV (vp_V fs) j (.int x)) ⟨_, g1, q2, q3, t_set q4 hap hj (.int x)⟩ (fun i _ => vp_updV_set hl (.int x) i)⟩ g3
  rw [wl_set _ hk, hf] at h2
  rw [hsl]
  exact kk H' _ h2 ⟨hS.1.put g2 g3 (hD.2 k hk), g2.trans hS.2⟩
/-- an end that left the heap alone -/
theorem r_iret {v : Int32} (hx : p.tables.exec = Jvm.exec) (hb : c.code = cc) (hr : meth.sig.returnType = some .int) (hlocks : meth.locks = false) (hdg : decode cc pc = .ok (.ireturn, 1)) {v' : Int32} (hv : v = v') : W p l e R s m args below meth c s.heap [] cells slots (MQ below (qR (some (.int v'))) args s cells slots nF) (F0 m pc ls [.int v]) := by
  subst hv
  exact W.iret hx hb hr (fun t ht hW => ⟨rfl, ht⟩) (fun _ h => by cases h) hdg hlocks
def bI (b : Bool) : Int32 := if b = true then nI 1 else nI 0
theorem r_zret {v : Int32} (hx : p.tables.exec = Jvm.exec) (hb : c.code = cc) (hr : meth.sig.returnType = some .boolean) (hlocks : meth.locks = false) (hdg : decode cc pc = .ok (.ireturn, 1)) {b : Bool} (hv : v = bI b) : W p l e R s m args below meth c s.heap [] cells slots (MQ below (qR (some (.int (bI b)))) args s cells slots nF) (F0 m pc ls [.int v]) := by
  subst hv
  exact W.zret (ty := .boolean) hx hb hr (by cases b <;> decide) (fun t ht hW => ⟨rfl, ht⟩) (fun _ h => by cases h) hdg hlocks
theorem r_iretW {v : Int32} (hx : p.tables.exec = Jvm.exec) (hb : c.code = cc) (hr : meth.sig.returnType = some .int) (hlocks : meth.locks = false) (hP : va_P D vwCl (wl ad f N) H) (hS : sS (wA ad N) s.heap H locs) (hdg : decode cc pc = .ok (.ireturn, 1)) {v' : Int32} (hv : v = v') (hf : f = f') : W p l e R s m args below meth c H locs cells slots (MQ below (qW D ad f' N (some (.int v'))) args s cells slots (wA ad N)) (F0 m pc ls [.int v]) := by
  subst hv
  subst hf
  exact W.iret hx hb hr (fun t ht hW => ⟨rfl, by rw [ht]; exact hP, hS.1.F ht, by rw [ht]; exact hS.2⟩) hS.1.2.2 hdg hlocks
theorem r_zretW {v : Int32} (hx : p.tables.exec = Jvm.exec) (hb : c.code = cc) (hr : meth.sig.returnType = some .boolean) (hlocks : meth.locks = false) (hP : va_P D vwCl (wl ad f N) H) (hS : sS (wA ad N) s.heap H locs) (hdg : decode cc pc = .ok (.ireturn, 1)) {b : Bool} (hv : v = bI b) (hf : f = f') : W p l e R s m args below meth c H locs cells slots (MQ below (qW D ad f' N (some (.int (bI b)))) args s cells slots (wA ad N)) (F0 m pc ls [.int v]) := by
  subst hv
  subst hf
  exact W.zret (ty := .boolean) hx hb hr (by cases b <;> decide) (fun t ht hW => ⟨rfl, by rw [ht]; exact hP, hS.1.F ht, by rw [ht]; exact hS.2⟩) hS.1.2.2 hdg hlocks
theorem r_vretW (hx : p.tables.exec = Jvm.exec) (hb : c.code = cc) (hr : meth.sig.returnType = none) (hlocks : meth.locks = false) (hP : va_P D vwCl (wl ad f N) H) (hS : sS (wA ad N) s.heap H locs) (hdg : decode cc pc = .ok (.return_, 1)) (hf : f = f') : W p l e R s m args below meth c H locs cells slots (MQ below (qW D ad f' N none) args s cells slots (wA ad N)) (F0 m pc ls []) := by
  subst hf
  exact W.vret hx hb hr (fun t ht hW => ⟨rfl, by rw [ht]; exact hP, hS.1.F ht, by rw [ht]; exact hS.2⟩) hS.1.2.2 hdg hlocks
theorem r_vret (hx : p.tables.exec = Jvm.exec) (hb : c.code = cc) (hr : meth.sig.returnType = none) (hlocks : meth.locks = false) (hdg : decode cc pc = .ok (.return_, 1)) : W p l e R s m args below meth c s.heap [] cells slots (MQ below (qR none) args s cells slots nF) (F0 m pc ls []) :=
  W.vret hx hb hr (fun t ht hW => ⟨rfl, ht⟩) (fun _ h => by cases h) hdg hlocks
/-- behind a call that leaves the heap alone -/
theorem k_R {r : Option Value} {av : Array Value} (hr : va_Run p l e R s m args below meth c H locs cells slots 0 0 (F0 m pc ls st0) rest (qR r av) nF) (kk : W p l e R s m args below meth c H locs cells slots Q (F0 m (pc + 3) ls (r.toList ++ rest))) : W p l e R s m args below meth c H locs cells slots Q (F0 m pc ls st0) := by
  intro T hT X
  obtain ⟨v, st₀, t, T', L, h0, X', hL, e1, e2, ⟨hv, hh⟩, st⟩ := hr T hT X
  cases hv
  have hL0 : L = [] := List.eq_nil_iff_forall_not_mem.mpr fun q hq => hL q hq
  subst hL0
  rw [List.append_nil] at X'
  obtain ⟨t2, a1, b1⟩ := kk T' (by rw [e1, hh, h0]) X'
  exact ⟨t2, st t2 a1, b1⟩
/-- behind a call that writes the world -/
theorem k_W {r : Option Value} {av : Array Value} (hr : va_Run p l e R s m args below meth c H locs cells slots 0 0 (F0 m pc ls st0) rest (qW D ad f' N r av) (wA ad N)) (hD : wD A ad N) (hS : sS A H0 H locs)
    (kk : ∀ (H1 : Heap) (locs1 : List Loc), va_P D vwCl (wl ad f' N) H1 → sS A H0 H1 locs1 → W p l e R s m args below meth c H1 locs1 cells slots Q (F0 m (pc + 3) ls (r.toList ++ rest))) : W p l e R s m args below meth c H locs cells slots Q (F0 m pc ls st0) := by
  have hA : ∀ q, wA ad N q → A q := fun q ⟨k, hk, hq⟩ => by rw [hq]; exact hD.2 k hk
  intro T hT X
  obtain ⟨v, st₀, t, T', L, h0, X', hL, e1, e2, ⟨hv, hP1, ⟨hz, hk⟩, hsz⟩, st⟩ := hr T hT X
  cases hv
  rw [h0] at hz hk hsz
  obtain ⟨t2, a1, b1⟩ := kk T'.heap (locs ++ L) (by rw [e1]; exact hP1)
    ⟨⟨Nat.le_trans hS.1.1 (by rw [e1]; exact hz), fun q h1 h2 => by rw [e1, hk q (Nat.lt_of_lt_of_le h1 hS.1.1) (fun z => h2 (hA q z))]; exact hS.1.2.1 q h1 h2, fun q hq => by
      rcases List.mem_append.mp hq with h | h
      · exact hS.1.2.2 q h
      · exact hA _ (hL q h)⟩, by rw [e1, hsz]; exact hS.2⟩ T' rfl X'
  exact ⟨t2, st t2 a1, b1⟩
end CMR
/-! STARTS of contracts -/
section CMS
variable {l : Launch} {y : MethodName} {ws ws' : List Cond} {rm : Room} {cc : ByteArray} {maxL : Nat} {ret : FieldType} {D : va_G} {tys : List (ClassId × FieldType)} {ad : Nat → Nat} {f f' : Nat → va_E} {N : Nat} {As : List Value} {r : Int32}
/-- a method that reads the world alone and answers an int -/
theorem c_ofR (hy : plainName y.cls = true) (hw : ws = Cond.code y cc maxL (some ret) :: ws') (hn : narrow ret (.int r) = .int r) (hla : (lg_sl As).length ≤ maxL)
    (body : ∀ (p : Program) (e : Env) (s : State) (m : MethodId) (av : Array Value) (below : List Frame) (meth : Method) (cd : Code) (Q : State → Prop),
      p.tables.exec = Jvm.exec → cd.code = cc → CallFix p m cd cc maxL s av ws y.cls → va_P D vwCl (wl ad f N) s.heap → va_K D vwCl tys s → wD (fun _ => True) ad N → tF s →
      (∀ (pc : Nat) (ls : Array Slot) (v : Int32), decode cc pc = .ok (.ireturn, 1) → v = r → W p l e rm s m av below meth cd s.heap [] 0 0 Q (F0 m pc ls [.int v])) →
      ∀ ls : Array Slot, lv_has ls maxL (lv_args 0 As) → W p l e rm s m av below meth cd s.heap [] 0 0 Q (F0 m 0 ls [])) :
    Met l y ws rm (va_Pc As (pX D tys ad f N)) (qR (some (.int r))) 0 0 nF := by
  refine Met.ofW (cc := cc) (maxL := maxL) (ret := some ret) hy hw ?_
  intro p e s m args below meth c s₁ B hml hv
  obtain ⟨rfl, hP, hK, hD, hT⟩ := hv
  have hr : meth.sig.returnType = some ret := B.returns
  have hl := lv_entry As (n := maxL) hla
  rw [lg_entry_eq]
  exact body p e s m _ below meth c _ B.exec B.bytes ⟨B.exec, B.bytes, hml, findClass_of_methodNamed B.named, atoms_spec (ws := ws) B.pre⟩ hP hK hD hT
    (fun pc ls v hdg hv => by subst hv; exact W.zret (ty := ret) B.exec B.bytes hr hn (fun t ht hW => ⟨rfl, ht⟩) (fun _ h => by cases h) hdg B.notSynchronized) _ hl
/-- a method that reads nothing of the heap -/
theorem c_ofP (hy : plainName y.cls = true) (hw : ws = Cond.code y cc maxL (some ret) :: ws') (hn : narrow ret (.int r) = .int r) (hla : (lg_sl As).length ≤ maxL)
    (body : ∀ (p : Program) (e : Env) (s : State) (m : MethodId) (av : Array Value) (below : List Frame) (meth : Method) (cd : Code) (Q : State → Prop),
      p.tables.exec = Jvm.exec → cd.code = cc → CallFix p m cd cc maxL s av ws y.cls →
      (∀ (pc : Nat) (ls : Array Slot) (v : Int32), decode cc pc = .ok (.ireturn, 1) → v = r → W p l e rm s m av below meth cd s.heap [] 0 0 Q (F0 m pc ls [.int v])) →
      ∀ ls : Array Slot, lv_has ls maxL (lv_args 0 As) → W p l e rm s m av below meth cd s.heap [] 0 0 Q (F0 m 0 ls [])) :
    Met l y ws rm (va_Pc As (fun _ => True)) (qR (some (.int r))) 0 0 nF := by
  refine Met.ofW (cc := cc) (maxL := maxL) (ret := some ret) hy hw ?_
  intro p e s m args below meth c s₁ B hml hv
  obtain ⟨rfl, -⟩ := hv
  have hr : meth.sig.returnType = some ret := B.returns
  have hl := lv_entry As (n := maxL) hla
  rw [lg_entry_eq]
  exact body p e s m _ below meth c _ B.exec B.bytes ⟨B.exec, B.bytes, hml, findClass_of_methodNamed B.named, atoms_spec (ws := ws) B.pre⟩
    (fun pc ls v hdg hv => by subst hv; exact W.zret (ty := ret) B.exec B.bytes hr hn (fun t ht hW => ⟨rfl, ht⟩) (fun _ h => by cases h) hdg B.notSynchronized) _ hl
/-- a method that writes the world and answers an int -/
theorem c_ofW (hy : plainName y.cls = true) (hw : ws = Cond.code y cc maxL (some ret) :: ws') (hn : narrow ret (.int r) = .int r) (hla : (lg_sl As).length ≤ maxL)
    (body : ∀ (p : Program) (e : Env) (s : State) (m : MethodId) (av : Array Value) (below : List Frame) (meth : Method) (cd : Code) (Q : State → Prop),
      p.tables.exec = Jvm.exec → cd.code = cc → CallFix p m cd cc maxL s av ws y.cls → va_P D vwCl (wl ad f N) s.heap → va_K D vwCl tys s → wD (wA ad N) ad N → tF s →
      (∀ (H : Heap) (locs : List Loc) (pc : Nat) (ls : Array Slot) (v : Int32) (f9 : Nat → va_E), va_P D vwCl (wl ad f9 N) H → sS (wA ad N) s.heap H locs → decode cc pc = .ok (.ireturn, 1) → v = r → f9 = f' → W p l e rm s m av below meth cd H locs 0 0 Q (F0 m pc ls [.int v])) →
      ∀ ls : Array Slot, lv_has ls maxL (lv_args 0 As) → W p l e rm s m av below meth cd s.heap [] 0 0 Q (F0 m 0 ls [])) :
    Met l y ws rm (va_Pc As (pX D tys ad f N)) (qW D ad f' N (some (.int r))) 0 0 (wA ad N) := by
  refine Met.ofW (cc := cc) (maxL := maxL) (ret := some ret) hy hw ?_
  intro p e s m args below meth c s₁ B hml hv
  obtain ⟨rfl, hP, hK, hD, hT⟩ := hv
  have hr : meth.sig.returnType = some ret := B.returns
  have hl := lv_entry As (n := maxL) hla
  rw [lg_entry_eq]
  exact body p e s m _ below meth c _ B.exec B.bytes ⟨B.exec, B.bytes, hml, findClass_of_methodNamed B.named, atoms_spec (ws := ws) B.pre⟩ hP hK (hD.any (fun k hk => wA.in hk)) hT
    (fun H locs pc ls v f9 hP9 hS hdg hv hf => by subst hv; subst hf; exact W.zret (ty := ret) B.exec B.bytes hr hn (fun t ht hW => ⟨rfl, by rw [ht]; exact hP9, hS.1.F ht, by rw [ht]; exact hS.2⟩) hS.1.2.2 hdg B.notSynchronized) _ hl
/-- a method that writes the world and answers nothing -/
theorem c_ofV (hy : plainName y.cls = true) (hw : ws = Cond.code y cc maxL none :: ws') (hla : (lg_sl As).length ≤ maxL)
    (body : ∀ (p : Program) (e : Env) (s : State) (m : MethodId) (av : Array Value) (below : List Frame) (meth : Method) (cd : Code) (Q : State → Prop),
      p.tables.exec = Jvm.exec → cd.code = cc → CallFix p m cd cc maxL s av ws y.cls → va_P D vwCl (wl ad f N) s.heap → va_K D vwCl tys s → wD (wA ad N) ad N → tF s →
      (∀ (H : Heap) (locs : List Loc) (pc : Nat) (ls : Array Slot) (f9 : Nat → va_E), va_P D vwCl (wl ad f9 N) H → sS (wA ad N) s.heap H locs → decode cc pc = .ok (.return_, 1) → f9 = f' → W p l e rm s m av below meth cd H locs 0 0 Q (F0 m pc ls [])) →
      ∀ ls : Array Slot, lv_has ls maxL (lv_args 0 As) → W p l e rm s m av below meth cd s.heap [] 0 0 Q (F0 m 0 ls [])) :
    Met l y ws rm (va_Pc As (pX D tys ad f N)) (qW D ad f' N none) 0 0 (wA ad N) := by
  refine Met.ofW (cc := cc) (maxL := maxL) (ret := none) hy hw ?_
  intro p e s m args below meth c s₁ B hml hv
  obtain ⟨rfl, hP, hK, hD, hT⟩ := hv
  have hr : meth.sig.returnType = none := B.returns
  have hl := lv_entry As (n := maxL) hla
  rw [lg_entry_eq]
  exact body p e s m _ below meth c _ B.exec B.bytes ⟨B.exec, B.bytes, hml, findClass_of_methodNamed B.named, atoms_spec (ws := ws) B.pre⟩ hP hK (hD.any (fun k hk => wA.in hk)) hT
    (fun H locs pc ls f9 hP9 hS hdg hf => by subst hf; exact W.vret B.exec B.bytes hr (fun t ht hW => ⟨rfl, by rw [ht]; exact hP9, hS.1.F ht, by rw [ht]; exact hS.2⟩) hS.1.2.2 hdg B.notSynchronized) _ hl
/-- a method that changes nothing and answers nothing -/
theorem c_ofU {B0 : State → Prop} (hy : plainName y.cls = true) (hw : ws = Cond.code y cc maxL none :: ws') (hla : (lg_sl As).length ≤ maxL)
    (body : ∀ (p : Program) (e : Env) (s : State) (m : MethodId) (av : Array Value) (below : List Frame) (meth : Method) (cd : Code) (Q : State → Prop),
      p.tables.exec = Jvm.exec → cd.code = cc → CallFix p m cd cc maxL s av ws y.cls → B0 s →
      (∀ (pc : Nat) (ls : Array Slot), decode cc pc = .ok (.return_, 1) → W p l e rm s m av below meth cd s.heap [] 0 0 Q (F0 m pc ls [])) →
      ∀ ls : Array Slot, lv_has ls maxL (lv_args 0 As) → W p l e rm s m av below meth cd s.heap [] 0 0 Q (F0 m 0 ls [])) :
    Met l y ws rm (va_Pc As B0) (qR none) 0 0 nF := by
  refine Met.ofW (cc := cc) (maxL := maxL) (ret := none) hy hw ?_
  intro p e s m args below meth c s₁ B hml hv
  obtain ⟨rfl, hB⟩ := hv
  have hr : meth.sig.returnType = none := B.returns
  have hl := lv_entry As (n := maxL) hla
  rw [lg_entry_eq]
  exact body p e s m _ below meth c _ B.exec B.bytes ⟨B.exec, B.bytes, hml, findClass_of_methodNamed B.named, atoms_spec (ws := ws) B.pre⟩ hB
    (fun pc ls hdg => W.vret B.exec B.bytes hr (fun t ht hW => ⟨rfl, ht⟩) (fun _ h => by cases h) hdg B.notSynchronized) _ hl
end CMS
theorem nar_bI (b : Bool) : narrow .boolean (.int (bI b)) = .int (bI b) := by cases b <;> decide
theorem down {P : Nat → Prop} (E : Nat) (he : P E) (hs : ∀ i, i < E → P (i + 1) → P i) : ∀ i, i ≤ E → P i := by
  have key : ∀ k i, i + k = E → P i := by
    intro k
    induction k with
    | zero => intro i h; rw [show i = E by omega]; exact he
    | succ k ih => intro i h; exact hs i (by omega) (ih (i + 1) (by omega))
  exact fun i h => key (E - i) i (by omega)
theorem lv_cast {ls : Array Slot} {nL : Nat} {l l' : List (Nat × Value)} (h : lv_has ls nL l) (e : l = l') : lv_has ls nL l' := e ▸ h
/-! BRANCHES on numbers and truth values; CALLS -/
section CMB
variable {p : Program} {l : Launch} {e : Env} {R : Room} {s : State} {m : MethodId} {args : Array Value} {below : List Frame} {meth : Method} {c : Code} {H : Heap} {locs : List Loc} {cells slots : Nat} {Q : State → Prop}
variable {cc : ByteArray} {pc : Nat} {ls : Array Slot} {rest st0 : List Value} {D : va_G} {A : Nat → Prop} {tys : List (ClassId × FieldType)} {H0 : Heap} {ad : Nat → Nat} {f f' : Nat → va_E} {N : Nat}
theorem bI_0 {b : Bool} : bI b = 0 ↔ b = false := by cases b <;> decide
theorem bI_n0 {b : Bool} : ¬ bI b = 0 ↔ b = true := by cases b <;> decide
theorem nI_0iff {a : Nat} (h : a < 2 ^ 31) : nI a = 0 ↔ a = 0 := by rw [← nI_0, nI_eq h (by decide)]
theorem r_ifeqB (hx : p.tables.exec = Jvm.exec) (hb : c.code = cc) {b : Bool} {off : Int} {tgt : Nat} (hdg : decode cc pc = .ok (.ifCond .eq off, 3)) (ht : (pc : Int) + off = (tgt : Int)) (kt : b = false → W p l e R s m args below meth c H locs cells slots Q (F0 m tgt ls rest)) (kf : b = true → W p l e R s m args below meth c H locs cells slots Q (F0 m (pc + 3) ls rest)) : W p l e R s m args below meth c H locs cells slots Q (F0 m pc ls (.int (bI b) :: rest)) := lv_if_eq hx hb hdg ht (fun h => kt (bI_0.mp h)) (fun h => kf (bI_n0.mp h))
theorem r_ifneB (hx : p.tables.exec = Jvm.exec) (hb : c.code = cc) {b : Bool} {off : Int} {tgt : Nat} (hdg : decode cc pc = .ok (.ifCond .ne off, 3)) (ht : (pc : Int) + off = (tgt : Int)) (kt : b = true → W p l e R s m args below meth c H locs cells slots Q (F0 m tgt ls rest)) (kf : b = false → W p l e R s m args below meth c H locs cells slots Q (F0 m (pc + 3) ls rest)) : W p l e R s m args below meth c H locs cells slots Q (F0 m pc ls (.int (bI b) :: rest)) := lv_if_ne hx hb hdg ht (fun h => kt (bI_n0.mp h)) (fun h => kf (bI_0.mp h))
theorem r_ifeqN (hx : p.tables.exec = Jvm.exec) (hb : c.code = cc) {a : Nat} {off : Int} {tgt : Nat} (ha : a < 2 ^ 31) (hdg : decode cc pc = .ok (.ifCond .eq off, 3)) (ht : (pc : Int) + off = (tgt : Int)) (kt : a = 0 → W p l e R s m args below meth c H locs cells slots Q (F0 m tgt ls rest)) (kf : a ≠ 0 → W p l e R s m args below meth c H locs cells slots Q (F0 m (pc + 3) ls rest)) : W p l e R s m args below meth c H locs cells slots Q (F0 m pc ls (.int (nI a) :: rest)) := lv_if_eq hx hb hdg ht (fun h => kt ((nI_0iff ha).mp h)) (fun h => kf (fun q => h ((nI_0iff ha).mpr q)))
theorem r_ifneN (hx : p.tables.exec = Jvm.exec) (hb : c.code = cc) {a : Nat} {off : Int} {tgt : Nat} (ha : a < 2 ^ 31) (hdg : decode cc pc = .ok (.ifCond .ne off, 3)) (ht : (pc : Int) + off = (tgt : Int)) (kt : a ≠ 0 → W p l e R s m args below meth c H locs cells slots Q (F0 m tgt ls rest)) (kf : a = 0 → W p l e R s m args below meth c H locs cells slots Q (F0 m (pc + 3) ls rest)) : W p l e R s m args below meth c H locs cells slots Q (F0 m pc ls (.int (nI a) :: rest)) := lv_if_ne hx hb hdg ht (fun h => kt (fun q => h ((nI_0iff ha).mpr q))) (fun h => kf ((nI_0iff ha).mp h))
theorem nI_nn {a : Nat} (h : a < 2 ^ 31) : ¬ nI a < 0 := nI_pos h
theorem nI_gt0 {a : Nat} (h : a < 2 ^ 31) : nI a ≤ 0 ↔ a = 0 := by rw [← nI_0, nI_leI h (by decide)]; omega
theorem r_ifltN (hx : p.tables.exec = Jvm.exec) (hb : c.code = cc) {a : Nat} {off : Int} {tgt : Nat} (ha : a < 2 ^ 31) (hdg : decode cc pc = .ok (.ifCond .lt off, 3)) (ht : (pc : Int) + off = (tgt : Int)) (kf : W p l e R s m args below meth c H locs cells slots Q (F0 m (pc + 3) ls rest)) : W p l e R s m args below meth c H locs cells slots Q (F0 m pc ls (.int (nI a) :: rest)) := lv_if_lt hx hb hdg ht (fun h => absurd h (nI_pos ha)) (fun _ => kf)
theorem r_ifleN (hx : p.tables.exec = Jvm.exec) (hb : c.code = cc) {a : Nat} {off : Int} {tgt : Nat} (ha : a < 2 ^ 31) (hdg : decode cc pc = .ok (.ifCond .le off, 3)) (ht : (pc : Int) + off = (tgt : Int)) (kt : a = 0 → W p l e R s m args below meth c H locs cells slots Q (F0 m tgt ls rest)) (kf : a ≠ 0 → W p l e R s m args below meth c H locs cells slots Q (F0 m (pc + 3) ls rest)) : W p l e R s m args below meth c H locs cells slots Q (F0 m pc ls (.int (nI a) :: rest)) := lv_if_le hx hb hdg ht (fun h => kt ((nI_gt0 ha).mp h)) (fun h => kf (fun q => h ((nI_gt0 ha).mpr q)))
theorem r_cgeN (hx : p.tables.exec = Jvm.exec) (hb : c.code = cc) {a b : Nat} {off : Int} {tgt : Nat} (ha : a < 2 ^ 31) (hb2 : b < 2 ^ 31) (hdg : decode cc pc = .ok (.if_icmp .ge off, 3)) (ht : (pc : Int) + off = (tgt : Int)) (kt : b ≤ a → W p l e R s m args below meth c H locs cells slots Q (F0 m tgt ls rest)) (kf : a < b → W p l e R s m args below meth c H locs cells slots Q (F0 m (pc + 3) ls rest)) : W p l e R s m args below meth c H locs cells slots Q (F0 m pc ls (.int (nI b) :: .int (nI a) :: rest)) := lv_icmp_ge hx hb hdg ht (fun h => kt ((nI_leI hb2 ha).mp h)) (fun h => kf (Nat.not_le.mp (fun q => h ((nI_leI hb2 ha).mpr q))))
theorem r_cltN (hx : p.tables.exec = Jvm.exec) (hb : c.code = cc) {a b : Nat} {off : Int} {tgt : Nat} (ha : a < 2 ^ 31) (hb2 : b < 2 ^ 31) (hdg : decode cc pc = .ok (.if_icmp .lt off, 3)) (ht : (pc : Int) + off = (tgt : Int)) (kt : a < b → W p l e R s m args below meth c H locs cells slots Q (F0 m tgt ls rest)) (kf : b ≤ a → W p l e R s m args below meth c H locs cells slots Q (F0 m (pc + 3) ls rest)) : W p l e R s m args below meth c H locs cells slots Q (F0 m pc ls (.int (nI b) :: .int (nI a) :: rest)) := lv_icmp_lt hx hb hdg ht (fun h => kt ((nI_ltI ha hb2).mp h)) (fun h => kf (Nat.not_lt.mp (fun q => h ((nI_ltI ha hb2).mpr q))))
theorem r_cgtN (hx : p.tables.exec = Jvm.exec) (hb : c.code = cc) {a b : Nat} {off : Int} {tgt : Nat} (ha : a < 2 ^ 31) (hb2 : b < 2 ^ 31) (hdg : decode cc pc = .ok (.if_icmp .gt off, 3)) (ht : (pc : Int) + off = (tgt : Int)) (kt : b < a → W p l e R s m args below meth c H locs cells slots Q (F0 m tgt ls rest)) (kf : a ≤ b → W p l e R s m args below meth c H locs cells slots Q (F0 m (pc + 3) ls rest)) : W p l e R s m args below meth c H locs cells slots Q (F0 m pc ls (.int (nI b) :: .int (nI a) :: rest)) := lv_icmp_gt hx hb hdg ht (fun h => kt ((nI_ltI hb2 ha).mp h)) (fun h => kf (Nat.not_lt.mp (fun q => h ((nI_ltI hb2 ha).mpr q))))
theorem r_cleN (hx : p.tables.exec = Jvm.exec) (hb : c.code = cc) {a b : Nat} {off : Int} {tgt : Nat} (ha : a < 2 ^ 31) (hb2 : b < 2 ^ 31) (hdg : decode cc pc = .ok (.if_icmp .le off, 3)) (ht : (pc : Int) + off = (tgt : Int)) (kt : a ≤ b → W p l e R s m args below meth c H locs cells slots Q (F0 m tgt ls rest)) (kf : b < a → W p l e R s m args below meth c H locs cells slots Q (F0 m (pc + 3) ls rest)) : W p l e R s m args below meth c H locs cells slots Q (F0 m pc ls (.int (nI b) :: .int (nI a) :: rest)) := lv_icmp_le hx hb hdg ht (fun h => kt ((nI_leI ha hb2).mp h)) (fun h => kf (Nat.not_le.mp (fun q => h ((nI_leI ha hb2).mpr q))))
theorem r_ceqN (hx : p.tables.exec = Jvm.exec) (hb : c.code = cc) {a b : Nat} {off : Int} {tgt : Nat} (ha : a < 2 ^ 31) (hb2 : b < 2 ^ 31) (hdg : decode cc pc = .ok (.if_icmp .eq off, 3)) (ht : (pc : Int) + off = (tgt : Int)) (kt : a = b → W p l e R s m args below meth c H locs cells slots Q (F0 m tgt ls rest)) (kf : a ≠ b → W p l e R s m args below meth c H locs cells slots Q (F0 m (pc + 3) ls rest)) : W p l e R s m args below meth c H locs cells slots Q (F0 m pc ls (.int (nI b) :: .int (nI a) :: rest)) := lv_icmp_eq hx hb hdg ht (fun h => kt (by first | exact (nI_eq ha hb2).mp h | exact ((nI_eq hb2 ha).mp h).symm)) (fun h => kf (fun q => h (by rw [q])))
theorem r_cneN (hx : p.tables.exec = Jvm.exec) (hb : c.code = cc) {a b : Nat} {off : Int} {tgt : Nat} (ha : a < 2 ^ 31) (hb2 : b < 2 ^ 31) (hdg : decode cc pc = .ok (.if_icmp .ne off, 3)) (ht : (pc : Int) + off = (tgt : Int)) (kt : a ≠ b → W p l e R s m args below meth c H locs cells slots Q (F0 m tgt ls rest)) (kf : a = b → W p l e R s m args below meth c H locs cells slots Q (F0 m (pc + 3) ls rest)) : W p l e R s m args below meth c H locs cells slots Q (F0 m pc ls (.int (nI b) :: .int (nI a) :: rest)) := lv_icmp_ne hx hb hdg ht (fun h => kt (fun q => h (by rw [q]))) (fun h => kf (by first | exact (nI_eq ha hb2).mp h | exact ((nI_eq hb2 ha).mp h).symm))
/-- what a call by a receiver in the world needs -/
theorem k_pre {k ci : Nat} {As : List Value} {fs : List Value} {q : vw_C} (hP : va_P D vwCl (wl ad f N) H) (hK : va_K D vwCl tys s) (hD : wD A ad N) (hT : tF s) (hk : k < N) (ha : f k = .inr (ci, fs)) (hc : vwCl[ci]? = some q) : PreV s H q.1 (ad k) (va_Pc (.ref (ad k) :: As) (pX D tys ad f N)) As :=
  ⟨pX.blind, va_recv hK hP hc ((wl_at hk).trans (by rw [ha])), fun U hU hW => ⟨rfl, pX.of hP hK hD hT U hU hW⟩⟩
theorem k_preS {As : List Value} : PreS s H (va_Pc As (fun _ => True)) As := ⟨tt.blind, fun _ _ _ => ⟨rfl, trivial⟩⟩
/-- behind a call that reads alone and answers an int -/
theorem k_Ri {r : Int32} {av : Array Value} (hr : va_Run p l e R s m args below meth c H locs cells slots 0 0 (F0 m pc ls st0) rest (qR (some (.int r)) av) nF) (kk : W p l e R s m args below meth c H locs cells slots Q (F0 m (pc + 3) ls (.int r :: rest))) : W p l e R s m args below meth c H locs cells slots Q (F0 m pc ls st0) := k_R hr kk
theorem k_Rv {av : Array Value} (hr : va_Run p l e R s m args below meth c H locs cells slots 0 0 (F0 m pc ls st0) rest (qR none av) nF) (kk : W p l e R s m args below meth c H locs cells slots Q (F0 m (pc + 3) ls rest)) : W p l e R s m args below meth c H locs cells slots Q (F0 m pc ls st0) := k_R hr kk
theorem k_Wi {r : Int32} {av : Array Value} (hr : va_Run p l e R s m args below meth c H locs cells slots 0 0 (F0 m pc ls st0) rest (qW D ad f' N (some (.int r)) av) (wA ad N)) (hD : wD A ad N) (hS : sS A H0 H locs)
    (kk : ∀ (H1 : Heap) (locs1 : List Loc), va_P D vwCl (wl ad f' N) H1 → sS A H0 H1 locs1 → W p l e R s m args below meth c H1 locs1 cells slots Q (F0 m (pc + 3) ls (.int r :: rest))) : W p l e R s m args below meth c H locs cells slots Q (F0 m pc ls st0) := k_W hr hD hS kk
theorem k_Wv {av : Array Value} (hr : va_Run p l e R s m args below meth c H locs cells slots 0 0 (F0 m pc ls st0) rest (qW D ad f' N none av) (wA ad N)) (hD : wD A ad N) (hS : sS A H0 H locs)
    (kk : ∀ (H1 : Heap) (locs1 : List Loc), va_P D vwCl (wl ad f' N) H1 → sS A H0 H1 locs1 → W p l e R s m args below meth c H1 locs1 cells slots Q (F0 m (pc + 3) ls rest)) : W p l e R s m args below meth c H locs cells slots Q (F0 m pc ls st0) := k_W hr hD hS kk
end CMB
/-! THE TWO WORLDS -/
/-- x with v at (k, i) -/
def up2 (x : Nat → Nat → Int32) (k i : Nat) (v : Int32) : Nat → Nat → Int32 := fun a b => if a = k ∧ b = i then v else x a b
theorem up2_self {x : Nat → Nat → Int32} {k i : Nat} {v : Int32} : up2 x k i v k i = v := by simp [up2]
theorem up2_k {x : Nat → Nat → Int32} {k i a b : Nat} {v : Int32} (h : a ≠ k) : up2 x k i v a b = x a b := by simp [up2, h]
theorem up2_i {x : Nat → Nat → Int32} {k i a b : Nat} {v : Int32} (h : b ≠ i) : up2 x k i v a b = x a b := by simp [up2, h]
theorem up2_row (x : Nat → Nat → Int32) (k i : Nat) (v : Int32) : upd (x k) i v = up2 x k i v k := by
  funext j
  by_cases h : j = i <;> simp [up2, upd, h]
/-- the class: 0 the object, 1 its cards, 2 its links, 3 its refusals; 4 books, 5 names (rows 13..15), 6 sets (rows 16..21), 7 mineChanges, 8 linked, 9 groups, 10 forGood, 11 changesThen (rows 22..45), 12 pairsOfScore -/
def cF (cI cA : ClassId) (ad : Nat → Nat) (n : Nat) (x : Nat → Nat → Int32) : Nat → va_E := fun k =>
  if k = 0 then .inr (3, [.ref (ad 1), .ref (ad 2), .ref (ad 3), .ref (ad 12)])
  else if k = 1 then .inr (0, [.ref (ad 4), .ref (ad 5), .ref (ad 6), .ref (ad 7), .int (nI n)])
  else if k = 2 then .inr (1, [.ref (ad 8), .ref (ad 9)])
  else if k = 3 then .inr (2, [.ref (ad 10), .ref (ad 11)])
  else if k = 5 then .inl (cA, 3, .inr (.inr (.inr (.inr (fun j => some (ad (j + 13)))))))
  else if k = 6 then .inl (cA, 6, .inr (.inr (.inr (.inr (fun j => some (ad (j + 16)))))))
  else if k = 11 then .inl (cA, 24, .inr (.inr (.inr (.inr (fun j => some (ad (j + 22)))))))
  else .inl (cI, if k = 12 then 153 else 24, .inl (x k))
section CF
variable {cI cA : ClassId} {ad : Nat → Nat} {n : Nat} {x : Nat → Nat → Int32}
theorem cF_0 : cF cI cA ad n x 0 = .inr (3, [.ref (ad 1), .ref (ad 2), .ref (ad 3), .ref (ad 12)]) := rfl
theorem cF_1 : cF cI cA ad n x 1 = .inr (0, [.ref (ad 4), .ref (ad 5), .ref (ad 6), .ref (ad 7), .int (nI n)]) := rfl
theorem cF_2 : cF cI cA ad n x 2 = .inr (1, [.ref (ad 8), .ref (ad 9)]) := rfl
theorem cF_3 : cF cI cA ad n x 3 = .inr (2, [.ref (ad 10), .ref (ad 11)]) := rfl
theorem cF_5 : cF cI cA ad n x 5 = .inl (cA, 3, .inr (.inr (.inr (.inr (fun j => some (ad ((fun j => j + 13) j))))))) := rfl
theorem cF_6 : cF cI cA ad n x 6 = .inl (cA, 6, .inr (.inr (.inr (.inr (fun j => some (ad ((fun j => j + 16) j))))))) := rfl
theorem cF_11 : cF cI cA ad n x 11 = .inl (cA, 24, .inr (.inr (.inr (.inr (fun j => some (ad ((fun j => j + 22) j))))))) := rfl
theorem cF_12 : cF cI cA ad n x 12 = .inl (cI, 153, .inl (x 12)) := rfl
theorem cF_a {k : Nat} (h : k = 4 ∨ (7 ≤ k ∧ k ≤ 10) ∨ 13 ≤ k) : cF cI cA ad n x k = .inl (cI, 24, .inl (x k)) := by
  unfold cF
  rw [if_neg (by omega), if_neg (by omega), if_neg (by omega), if_neg (by omega), if_neg (by omega), if_neg (by omega), if_neg (by omega), if_neg (by omega)]
theorem cF_congr {y : Nat → Nat → Int32} {j : Nat} (h : x j = y j) : cF cI cA ad n x j = cF cI cA ad n y j := by
  unfold cF
  rw [h]
theorem cF_up {k i : Nat} {v : Int32} (h : k = 4 ∨ (7 ≤ k ∧ k ≤ 10) ∨ 13 ≤ k) : va_up (cF cI cA ad n x) k (.inl (cI, 24, .inl (upd (x k) i v))) = cF cI cA ad n (up2 x k i v) := by
  funext j
  by_cases hj : j = k
  · subst hj
    rw [va_up_self, cF_a h, up2_row]
  · rw [va_up_ne _ _ hj]
    exact cF_congr (by funext b; rw [up2_k hj])
theorem cF_up12 {i : Nat} {v : Int32} : va_up (cF cI cA ad n x) 12 (.inl (cI, 153, .inl (upd (x 12) i v))) = cF cI cA ad n (up2 x 12 i v) := by
  funext j
  by_cases hj : j = 12
  · subst hj
    rw [va_up_self, cF_12, up2_row]
  · rw [va_up_ne _ _ hj]
    exact cF_congr (by funext b; rw [up2_k hj])
theorem cF_cnt {n' : Nat} : va_up (cF cI cA ad n x) 1 (.inr (0, [.ref (ad 4), .ref (ad 5), .ref (ad 6), .ref (ad 7), .int (nI n')])) = cF cI cA ad n' x := by
  funext j
  by_cases hj : j = 1
  · subst hj
    rw [va_up_self, cF_1]
  · rw [va_up_ne _ _ hj]
    unfold cF
    simp only [if_neg hj]
end CF
/-- the reference: 0 the object; 1 book (24), 2 name (72), 3 set (144), 4 links, 5 good, 6 forNow (24), 7 scores (576) -/
def mF (cI : ClassId) (ad : Nat → Nat) (th : Int32) (n : Nat) (y : Nat → Nat → Int32) : Nat → va_E := fun k =>
  if k = 0 then .inr (4, [.int th, .ref (ad 1), .ref (ad 2), .ref (ad 3), .ref (ad 4), .ref (ad 5), .ref (ad 6), .int (nI n), .ref (ad 7)])
  else .inl (cI, if k = 2 then 72 else if k = 3 then 144 else if k = 7 then 576 else 24, .inl (y k))
section MF
variable {cI : ClassId} {ad : Nat → Nat} {th : Int32} {n : Nat} {y : Nat → Nat → Int32}
theorem mF_0 : mF cI ad th n y 0 = .inr (4, [.int th, .ref (ad 1), .ref (ad 2), .ref (ad 3), .ref (ad 4), .ref (ad 5), .ref (ad 6), .int (nI n), .ref (ad 7)]) := rfl
theorem mF_a (k : Nat) (h : k = 1 ∨ (4 ≤ k ∧ k ≤ 6)) : mF cI ad th n y k = .inl (cI, 24, .inl (y k)) := by
  unfold mF
  rw [if_neg (by omega), if_neg (by omega), if_neg (by omega), if_neg (by omega)]
theorem mF_2 : mF cI ad th n y 2 = .inl (cI, 72, .inl (y 2)) := rfl
theorem mF_3 : mF cI ad th n y 3 = .inl (cI, 144, .inl (y 3)) := rfl
theorem mF_7 : mF cI ad th n y 7 = .inl (cI, 576, .inl (y 7)) := rfl
theorem mF_up {k i L : Nat} {v : Int32} (h : mF cI ad th n y k = .inl (cI, L, .inl (y k))) (hk : k ≠ 0) : va_up (mF cI ad th n y) k (.inl (cI, L, .inl (upd (y k) i v))) = mF cI ad th n (up2 y k i v) := by
  funext j
  by_cases hj : j = k
  · subst hj
    rw [va_up_self]
    unfold mF at h ⊢
    rw [if_neg hk] at h ⊢
    have h1 := Prod.mk.inj (Sum.inl.inj h)
    have h2 := (Prod.mk.inj h1.2).1
    rw [h2, up2_row]
  · rw [va_up_ne _ _ hj]
    unfold mF
    rw [show up2 y k i v j = y j from by funext b; rw [up2_k hj]]
theorem mF_th {th' : Int32} : va_up (mF cI ad th n y) 0 (.inr (4, [.int th', .ref (ad 1), .ref (ad 2), .ref (ad 3), .ref (ad 4), .ref (ad 5), .ref (ad 6), .int (nI n), .ref (ad 7)])) = mF cI ad th' n y := by
  funext j
  by_cases hj : j = 0
  · subst hj
    rw [va_up_self, mF_0]
  · rw [va_up_ne _ _ hj]
    unfold mF
    rw [if_neg hj, if_neg hj]
theorem mF_n {n' : Nat} : va_up (mF cI ad th n y) 0 (.inr (4, [.int th, .ref (ad 1), .ref (ad 2), .ref (ad 3), .ref (ad 4), .ref (ad 5), .ref (ad 6), .int (nI n'), .ref (ad 7)])) = mF cI ad th n' y := by
  funext j
  by_cases hj : j = 0
  · subst hj
    rw [va_up_self, mF_0]
  · rw [va_up_ne _ _ hj]
    unfold mF
    rw [if_neg hj, if_neg hj]
end MF
abbrev cX (D : va_G) (cI cA : ClassId) (ad : Nat → Nat) (n : Nat) (x : Nat → Nat → Int32) : State → Prop := pX D [(cI, .int), (cA, .array .int)] ad (cF cI cA ad n x) 46
abbrev mX (D : va_G) (cI cA : ClassId) (ad : Nat → Nat) (th : Int32) (n : Nat) (y : Nat → Nat → Int32) : State → Prop := pX D [(cI, .int), (cA, .array .int)] ad (mF cI ad th n y) 8
/-! PURE WORDS -/
def bit (c : Nat) : Int32 := nI 1 <<< (nI c &&& 31)
def hasB (s : Int32) (c : Nat) : Bool := decide (s &&& bit c ≠ 0)
def ush (x y : Int32) : Int32 := (x.toUInt32 >>> (y.toUInt32 &&& Int32.toUInt32 31)).toInt32
section CMQ
variable {p : Program} {l : Launch} {e : Env} {R : Room} {s : State} {m : MethodId} {args : Array Value} {below : List Frame} {meth : Method} {c : Code} {H : Heap} {locs : List Loc} {cells slots : Nat} {Q : State → Prop}
variable {cc : ByteArray} {pc : Nat} {ls : Array Slot} {rest st0 : List Value} {D : va_G} {A : Nat → Prop} {tys : List (ClassId × FieldType)} {H0 : Heap} {ad : Nat → Nat} {f f' : Nat → va_E} {N : Nat} {cI cA : ClassId} {n : Nat} {x : Nat → Nat → Int32}
theorem r_bit (hx : p.tables.exec = Jvm.exec) (hb : c.code = cc) {a : Nat} (hdg : decode cc pc = .ok (.ishl, 1)) (kk : W p l e R s m args below meth c H locs cells slots Q (F0 m (pc + 1) ls (.int (bit a) :: rest))) : W p l e R s m args below meth c H locs cells slots Q (F0 m pc ls (.int (nI a) :: .int (nI 1) :: rest)) := lv_ishl hx hb hdg kk
theorem r_cnt (hx : p.tables.exec = Jvm.exec) (hb : c.code = cc) {Ts : List Cond} (hts : ∀ w ∈ Ts, w.before args s = true) (hin : ∀ w ∈ wsX00, w ∈ Ts) (hown : s.vm.findClass RX3 = some m.cls) (hK : va_K D vwCl tys s) (hP : va_P D vwCl (wl ad (cF cI cA ad n x) 46) H) (hT : va_Nw (.fieldLinkNest RX3 46 RX0 "count" "I" RX3) s) (hdg : decode cc pc = .ok (.getfield 46, 3))
    (kk : W p l e R s m args below meth c H locs cells slots Q (F0 m (pc + 3) ls (.int (nI n) :: rest))) : W p l e R s m args below meth c H locs cells slots Q (F0 m pc ls (.ref (ad 1) :: rest)) :=
  va_getN (own := RX3) (ref := RX0) (C := RX0) (host := RX3) (ci := 0) (T := TX0) (N := 5) hx hb hts hin hown hK hP 1 ((wl_at (by decide)).trans (by rw [cF_1])) rfl 4 (by decide) (va_Nw.use rfl hT) (fun _ h => h) rfl hdg kk
end CMQ
