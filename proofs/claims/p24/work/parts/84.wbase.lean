/-! THE LAW'S WORLD: the class's 46 cells and the row 'seen' (cell 46); its helpers -/
def sF (cI cA : ClassId) (ad : Nat → Nat) (n : Nat) (x : Nat → Nat → Int32) (sn : Nat → Int32) : Nat → va_E := fun k => if k = 46 then .inl (cI, 24, .inl sn) else cF cI cA ad n x k
section SF
variable {cI cA : ClassId} {ad : Nat → Nat} {n n' : Nat} {x x' : Nat → Nat → Int32} {sn sn' : Nat → Int32} {D : va_G} {H H1 H0 : Heap} {A : Nat → Prop} {locs L : List Loc}
theorem sF_c {k : Nat} (h : k < 46) : sF cI cA ad n x sn k = cF cI cA ad n x k := if_neg (by omega)
theorem sF_46 : sF cI cA ad n x sn 46 = .inl (cI, 24, .inl sn) := rfl
theorem sP_c (hP : va_P D vwCl (wl ad (sF cI cA ad n x sn) 47) H) : va_P D vwCl (wl ad (cF cI cA ad n x) 46) H := fun k q h => by
  obtain ⟨h1, rfl⟩ := wl_of h
  have := hP k _ (wl_at (show k < 47 by omega))
  rwa [sF_c h1] at this
theorem sP_of (h1 : va_P D vwCl (wl ad (cF cI cA ad n x) 46) H) (h2 : va_at D vwCl (ad 46, .inl (cI, 24, .inl sn)) H) : va_P D vwCl (wl ad (sF cI cA ad n x sn) 47) H := fun k q h => by
  obtain ⟨h3, rfl⟩ := wl_of h
  by_cases e : k = 46
  · subst e; exact h2
  · rw [sF_c (by omega)]; exact h1 k _ (wl_at (by omega))
theorem sD_c (h : wD A ad 47) : wD A ad 46 := ⟨fun i j hi hj => h.1 i j (by omega) (by omega), fun k hk => h.2 k (by omega)⟩
theorem sA (h : wD A ad 47) : ∀ q, wA ad 46 q → A q := fun q ⟨k, hk, hq⟩ => by rw [hq]; exact h.2 k (by omega)
theorem sA47 (h : wD A ad 47) : ∀ q, wA ad 47 q → A q := fun q ⟨k, hk, hq⟩ => by rw [hq]; exact h.2 k hk
theorem sP_call (hD : wD A ad 47) (hP : va_P D vwCl (wl ad (sF cI cA ad n x sn) 47) H) (h1 : va_P D vwCl (wl ad (cF cI cA ad n' x') 46) H1) (hS : ∀ q : Nat, q < H.size → ¬ wA ad 46 q → H1[q]? = H[q]?) : va_P D vwCl (wl ad (sF cI cA ad n' x' sn) 47) H1 := by
  have h46 := hP 46 _ (wl_at (show 46 < 47 by decide))
  have hlt := vx_lt hP (wl_at (show 46 < 47 by decide))
  have e := hS (ad 46) hlt (fun ⟨k, hk, hq⟩ => by have := hD.1 46 k (by omega) (by omega) hq; omega)
  refine sP_of h1 ?_
  show H1[ad 46]? = _
  rw [e]
  exact h46
theorem oP_keep {f : Nat → va_E} {N : Nat} (hP : va_P D vwCl (wl ad f N) H) (h : ∀ q : Nat, q < H.size → H1[q]? = H[q]?) : va_P D vwCl (wl ad f N) H1 := hP.kept fun _ _ hk => h _ (hP _ _ hk).lt
theorem vS_step (hS : va_S A H0 H locs) (hz : H.size ≤ H1.size) (hk : ∀ q : Nat, q < H.size → ¬ A q → H1[q]? = H[q]?) (hL : ∀ z ∈ L, A z.base) : va_S A H0 H1 (locs ++ L) :=
  ⟨Nat.le_trans hS.1 hz, fun q h1 h2 => (hk q (Nat.lt_of_lt_of_le h1 hS.1) h2).trans (hS.2.1 q h1 h2), fun z hz => (List.mem_append.mp hz).elim (hS.2.2 z) (hL z)⟩
end SF
def xC (U : State) : Prop := va_Nc IAE IOOB U ∧ va_Nc ISE IOOB U ∧ va_Nc ISE IAE U
theorem xC.warm {s U : State} (hW : s.WarmedH U.vm) (h : xC s) : xC U := ⟨va_Nc.moved hW.alike h.1, va_Nc.moved hW.alike h.2.1, va_Nc.moved hW.alike h.2.2⟩
theorem castE {E : String} {s : State} {args : Array Value} (h : xN s) (hE : E = IOOB ∨ E = IAE ∨ E = ISE) : (Cond.castable E E).before args s = true := va_any rfl (h E hE _ List.mem_cons_self)
/-- a helper's start, over n cells that hold f -/
def wG (D : va_G) (cI cA : ClassId) (ad : Nat → Nat) (f : Nat → va_E) (N : Nat) (U : State) : Prop := pT D [(cI, .int), (cA, .array .int)] ad f N U ∧ xC U
theorem wG.blind {D : va_G} {cI cA : ClassId} {ad : Nat → Nat} {f : Nat → va_E} {N : Nat} {As : List Value} : FrameBlind (va_Pc As (wG D cI cA ad f N)) := by
  intro a U g mk ⟨h1, h2, h3⟩
  exact ⟨h1, (pT.blind (As := a.toList) a U g mk ⟨by simp, h2⟩).2, h3⟩
/-- it answers r, the world is f, nothing else that was there has changed -/
def qO (D : va_G) (ad : Nat → Nat) (f : Nat → va_E) (N : Nat) (r : Int32) : Array Value → State → Outcome → State → Prop := fun _ st o t => o = .returned (some (.int r)) ∧ va_P D vwCl (wl ad f N) t.heap ∧ va_F (wA ad N) st t
theorem c_ofO {l : Launch} {y : MethodName} {ws ws' : List Cond} {rm : Room} {cc : ByteArray} {maxL : Nat} {hh : List (Nat × Nat × Nat × Nat)} {As : List Value} {D : va_G} {cI cA : ClassId} {ad : Nat → Nat} {n : Nat} {x : Nat → Nat → Int32} {f' : Nat → va_E} {r : Int32} (hy : plainName y.cls = true) (hw : ws = Cond.codeWith y cc maxL (some .int) hh :: ws') (hla : (lg_sl As).length ≤ maxL)
    (body : ∀ (p : Program) (e : Env) (s : State) (m : MethodId) (av : Array Value) (below : List Frame) (meth : Method) (cd : Code) (Q : State → Prop),
      p.tables.exec = Jvm.exec → cd.code = cc → CallFix p m cd cc maxL s av ws y.cls → cd.exceptionTable.toList = tableOf hh → va_P D vwCl (wl ad (cF cI cA ad n x) 46) s.heap → va_K D vwCl [(cI, .int), (cA, .array .int)] s → wD (wA ad 46) ad 46 → tF s → xF (wA ad 46) s → xC s →
      (∀ (H : Heap) (locs : List Loc) (cells slots : Nat) (pc : Nat) (ls : Array Slot) (v : Int32) (f9 : Nat → va_E), va_P D vwCl (wl ad f9 46) H → va_S (wA ad 46) s.heap H locs → decode cc pc = .ok (.ireturn, 1) → v = r → f9 = f' → cells ≤ 1 → slots ≤ 6 → W p l e rm s m av below meth cd H locs cells slots Q (F0 m pc ls [.int v])) →
      ∀ ls : Array Slot, lv_has ls maxL (lv_args 0 As) → W p l e rm s m av below meth cd s.heap [] 0 0 Q (F0 m 0 ls [])) :
    Met l y ws rm (va_Pc As (wG D cI cA ad (cF cI cA ad n x) 46)) (qO D ad f' 46 r) 1 6 (wA ad 46) := by
  refine MetFree.of_bodyS (code := cc) (maxLocals := maxL) (ret := some .int) hy ?_ ?_
  · intro args s m h hn
    obtain ⟨m9, meth, c, hn9, h1, h2, h3, h4, -, h5, h6, -⟩ := Cond.codeWith_spec (atoms_spec (ws := ws) h _ (by rw [hw]; exact List.mem_cons_self))
    cases hn.symm.trans hn9
    exact ⟨meth, c, h1, h2, h3, h4, h5, h6⟩
  · intro p e s m args below meth c s₁ B hml hv _
    obtain ⟨rfl, ⟨⟨hP, hK, hD, hT⟩, hX⟩, hC⟩ := hv
    have hh0 : s₁.heap = s.heap := by rw [B.state]; rfl
    have hr : meth.sig.returnType = some .int := B.returns
    have hl := lv_entry As (n := maxL) hla
    have htab : c.exceptionTable.toList = tableOf hh := vx_table (x := y) B (atoms_spec (ws := ws) B.pre _ (by rw [hw]; exact List.mem_cons_self))
    have K : W p l e rm s m As.toArray below meth c s.heap [] 0 0 (MQ below (qO D ad f' 46 r) As.toArray s 1 6 (wA ad 46)) (entryFrame m As.toArray maxL) := by
      rw [lg_entry_eq]
      exact body p e s m _ below meth c _ B.exec B.bytes ⟨B.exec, B.bytes, hml, findClass_of_methodNamed B.named, atoms_spec (ws := ws) B.pre⟩ htab hP hK (hD.any (fun k hk => wA.in hk)) hT hX hC
        (fun H locs cells slots pc ls v f9 hP9 hS hdg hv hf h1 h6 => by
          subst hv; subst hf
          exact W.widen (k := 1) (n := 6) h1 h6 (W.iret B.exec B.bytes hr (fun t ht hW => ⟨rfl, by rw [ht]; exact hP9, hS.F ht⟩) hS.2.2 hdg B.notSynchronized)) _ hl
    obtain ⟨t, a1, o, b1, b2, b3⟩ := K s₁ hh0 (Stand.of_body B)
    exact ⟨t, o, a1, b1, b2, b3⟩
/-- it answers true, and the class's numbers are as they were, but the table of scores -/
def qE (D : va_G) (cI cA : ClassId) (ad : Nat → Nat) (n : Nat) (x : Nat → Nat → Int32) : Array Value → State → Outcome → State → Prop := fun _ st o t => o = .returned (some (.int (nI 1))) ∧ (∃ (x' : Nat → Nat → Int32) (sn' : Nat → Int32), (∀ a, a ≠ 12 → x' a = x a) ∧ va_P D vwCl (wl ad (sF cI cA ad n x' sn') 47) t.heap) ∧ va_F (wA ad 47) st t
theorem c_ofE {l : Launch} {y : MethodName} {ws ws' : List Cond} {rm : Room} {cc : ByteArray} {maxL : Nat} {As : List Value} {D : va_G} {cI cA : ClassId} {ad : Nat → Nat} {n : Nat} {x : Nat → Nat → Int32} {sn : Nat → Int32} (hy : plainName y.cls = true) (hw : ws = Cond.code y cc maxL (some .boolean) :: ws') (hla : (lg_sl As).length ≤ maxL)
    (body : ∀ (p : Program) (e : Env) (s : State) (m : MethodId) (av : Array Value) (below : List Frame) (meth : Method) (cd : Code) (Q : State → Prop),
      p.tables.exec = Jvm.exec → cd.code = cc → CallFix p m cd cc maxL s av ws y.cls → va_P D vwCl (wl ad (sF cI cA ad n x sn) 47) s.heap → va_K D vwCl [(cI, .int), (cA, .array .int)] s → wD (wA ad 47) ad 47 → tF s → xF (wA ad 47) s → xC s →
      (∀ (H : Heap) (locs : List Loc) (cells slots : Nat) (pc : Nat) (ls : Array Slot) (x' : Nat → Nat → Int32) (sn' : Nat → Int32), va_P D vwCl (wl ad (sF cI cA ad n x' sn') 47) H → va_S (wA ad 47) s.heap H locs → (∀ a, a ≠ 12 → x' a = x a) → decode cc pc = .ok (.ireturn, 1) → cells ≤ 1 → slots ≤ 6 → W p l e rm s m av below meth cd H locs cells slots Q (F0 m pc ls [.int (nI 1)])) →
      ∀ ls : Array Slot, lv_has ls maxL (lv_args 0 As) → W p l e rm s m av below meth cd s.heap [] 0 0 Q (F0 m 0 ls [])) :
    Met l y ws rm (va_Pc As (wG D cI cA ad (sF cI cA ad n x sn) 47)) (qE D cI cA ad n x) 1 6 (wA ad 47) := by
  refine Met.ofW (cc := cc) (maxL := maxL) (ret := some .boolean) hy hw ?_
  intro p e s m args below meth c s₁ B hml hv
  obtain ⟨rfl, ⟨⟨hP, hK, hD, hT⟩, hX⟩, hC⟩ := hv
  have hr : meth.sig.returnType = some .boolean := B.returns
  have hl := lv_entry As (n := maxL) hla
  rw [lg_entry_eq]
  exact body p e s m _ below meth c _ B.exec B.bytes ⟨B.exec, B.bytes, hml, findClass_of_methodNamed B.named, atoms_spec (ws := ws) B.pre⟩ hP hK (hD.any (fun k hk => wA.in hk)) hT hX hC
    (fun H locs cells slots pc ls x' sn' hP9 hS hx' hdg h1 h6 => W.widen (k := 1) (n := 6) h1 h6 (W.zret (ty := .boolean) B.exec B.bytes hr (nar_bI true) (fun t ht hW => ⟨rfl, ⟨x', sn', hx', by rw [ht]; exact hP9⟩, hS.F ht⟩) hS.2.2 hdg B.notSynchronized)) _ hl
section WRP
variable {p : Program} {l : Launch} {e : Env} {R : Room} {s : State} {m : MethodId} {args : Array Value} {below : List Frame} {meth : Method} {c : Code} {H : Heap} {locs : List Loc} {cells slots : Nat} {Q : State → Prop}
variable {cc : ByteArray} {pc : Nat} {ls : Array Slot} {rest st0 : List Value} {D : va_G} {A B : Nat → Prop} {tys : List (ClassId × FieldType)} {H0 : Heap} {cI cA : ClassId} {ad : Nat → Nat} {n n' : Nat} {x x' : Nat → Nat → Int32} {sn : Nat → Int32} {f f' : Nat → va_E} {N : Nat}
/-- seen[i] = v -/
theorem r_sput (hx : p.tables.exec = Jvm.exec) (hb : c.code = cc) (hK : va_K D vwCl [(cI, .int), (cA, .array .int)] s) (hP : va_P D vwCl (wl ad (sF cI cA ad n x sn) 47) H) (hD : wD A ad 47) (hS : va_S A H0 H locs) {i : Nat} (hi : i < 24) {v : Int32} (hdg : decode cc pc = .ok (.iastore, 1))
    (kk : ∀ (H1 : Heap) (locs1 : List Loc), va_P D vwCl (wl ad (sF cI cA ad n x (upd sn i v)) 47) H1 → va_S A H0 H1 locs1 → W p l e R s m args below meth c H1 locs1 cells slots Q (F0 m (pc + 1) ls rest)) : W p l e R s m args below meth c H locs cells slots Q (F0 m pc ls (.int v :: .int (nI i) :: .ref (ad 46) :: rest)) := by
  refine va_iast hx hb hK hP (hD.to _) hS 46 0 (n := 24) (f := sn) (wl_at (show 46 < 47 by decide)) rfl (vp_in_nI hi (by decide)) hdg (fun H1 locs1 h1 _ h3 => kk H1 locs1 ?_ h3)
  rw [wl_set _ (show 46 < 47 by decide), nI_clamp (by omega)] at h1
  have e : va_up (sF cI cA ad n x sn) 46 (.inl (cI, 24, .inl (upd sn i v))) = sF cI cA ad n x (upd sn i v) := by
    funext k
    by_cases hk : k = 46
    · subst hk; rw [va_up_self]; rfl
    · rw [va_up_ne _ _ hk]
      unfold sF
      rw [if_neg hk, if_neg hk]
  rw [e] at h1
  exact h1
/-- .. of a call that throws and has written its world -/
theorem k_TE {Qa : State → Outcome → State → Prop} {E : String} (hr : vx_Run p l e R s m args below meth c H locs cells slots 1 6 (F0 m pc ls st0) rest Qa (xEW D ad f N E) (wA ad N)) (hQ : ∀ st v t, ¬ Qa st (.returned v) t)
    (kk : ∀ (H1 : Heap) (L : List Loc) (q : Addr) (ce : Cell), va_P D vwCl (wl ad f N) H1 → H.size ≤ H1.size → (∀ a : Nat, a < H.size → ¬ wA ad N a → H1[a]? = H[a]?) → (∀ z ∈ L, wA ad N z.base) → H1[q]? = some ce → ce.vm = .none → s.vm.findClass E = some ce.cls → vx_W p l e R s m args below meth c H1 (locs ++ L) (cells + 1) (slots + 6) Q (F0 m pc ls rest) q) : W p l e R s m args below meth c H locs cells slots Q (F0 m pc ls st0) := by
  intro T hT X
  rcases hr T hT X with ⟨v, st₀, t, T', L, h0, X', hL, e1, e2, hq, st⟩ | ⟨q, st₀, t, T', L, E', ce, h0, X', hL, e1, e2, ⟨rfl, hP, hz, hk⟩, hce, hcv, hcl, st⟩
  · exact absurd hq (hQ _ _ _)
  · rw [h0] at hz hk
    obtain ⟨t2, a1, b1⟩ := kk T'.heap L q ce (by rw [e1]; exact hP) (by rw [e1]; exact hz) (fun a ha hn => by rw [e1]; exact hk a ha hn) hL (by rw [e1]; exact hce) hcv hcl T' rfl X'
    exact ⟨t2, st.trans a1, b1⟩
/-- behind a helper's call that answers an int -/
theorem k_O {r : Int32} {av : Array Value} (hr : va_Run p l e R s m args below meth c H locs cells slots 1 6 (F0 m pc ls st0) rest (qO D ad (cF cI cA ad n' x') 46 r av) (wA ad 46)) (hD : wD A ad 47) (hP : va_P D vwCl (wl ad (sF cI cA ad n x sn) 47) H) (hS : va_S A H0 H locs)
    (kk : ∀ (H1 : Heap) (locs1 : List Loc), va_P D vwCl (wl ad (sF cI cA ad n' x' sn) 47) H1 → va_S A H0 H1 locs1 → W p l e R s m args below meth c H1 locs1 (cells + 1) (slots + 6) Q (F0 m (pc + 3) ls (.int r :: rest))) : W p l e R s m args below meth c H locs cells slots Q (F0 m pc ls st0) := by
  intro T hT X
  obtain ⟨v, st₀, t, T', L, h0, X', hL, e1, e2, ⟨hv, hP1, hz, hk⟩, st⟩ := hr T hT X
  cases hv
  rw [h0] at hz hk
  have hA := sA hD
  obtain ⟨t2, a1, b1⟩ := kk T'.heap (locs ++ L) (by rw [e1]; exact sP_call hD hP hP1 hk) (vS_step hS (by rw [e1]; exact hz) (fun q h1 h2 => by rw [e1]; exact hk q h1 (fun z => h2 (hA q z))) (fun z hz => hA _ (hL z hz))) T' rfl X'
  exact ⟨t2, st t2 a1, b1⟩
/-- behind a call of the class that writes -/
theorem k_C {r : Int32} {av : Array Value} (hr : va_Run p l e R s m args below meth c H locs cells slots 0 0 (F0 m pc ls st0) rest (qW D ad (cF cI cA ad n' x') 46 (some (.int r)) av) (wA ad 46)) (hD : wD A ad 47) (hP : va_P D vwCl (wl ad (sF cI cA ad n x sn) 47) H) (hS : va_S A H0 H locs)
    (kk : ∀ (H1 : Heap) (locs1 : List Loc), va_P D vwCl (wl ad (sF cI cA ad n' x' sn) 47) H1 → va_S A H0 H1 locs1 → W p l e R s m args below meth c H1 locs1 cells slots Q (F0 m (pc + 3) ls (.int r :: rest))) : W p l e R s m args below meth c H locs cells slots Q (F0 m pc ls st0) := by
  intro T hT X
  obtain ⟨v, st₀, t, T', L, h0, X', hL, e1, e2, ⟨hv, hP1, ⟨hz, hk⟩, hsz⟩, st⟩ := hr T hT X
  cases hv
  rw [h0] at hz hk hsz
  have hA := sA hD
  obtain ⟨t2, a1, b1⟩ := kk T'.heap (locs ++ L) (by rw [e1]; exact sP_call hD hP hP1 hk) (vS_step hS (by rw [e1]; exact hz) (fun q h1 h2 => by rw [e1]; exact hk q h1 (fun z => h2 (hA q z))) (fun z hz => hA _ (hL z hz))) T' rfl X'
  exact ⟨t2, st t2 a1, b1⟩
/-- behind arePairs -/
theorem k_E {av : Array Value} (hr : va_Run p l e R s m args below meth c H locs cells slots 1 6 (F0 m pc ls st0) rest (qE D cI cA ad n x av) (wA ad 47)) (hD : wD A ad 47) (hS : va_S A H0 H locs)
    (kk : ∀ (H1 : Heap) (locs1 : List Loc) (x' : Nat → Nat → Int32) (sn' : Nat → Int32), (∀ a, a ≠ 12 → x' a = x a) → va_P D vwCl (wl ad (sF cI cA ad n x' sn') 47) H1 → va_S A H0 H1 locs1 → W p l e R s m args below meth c H1 locs1 (cells + 1) (slots + 6) Q (F0 m (pc + 3) ls (.int (nI 1) :: rest))) : W p l e R s m args below meth c H locs cells slots Q (F0 m pc ls st0) := by
  intro T hT X
  obtain ⟨v, st₀, t, T', L, h0, X', hL, e1, e2, ⟨hv, ⟨x', sn', hx', hP1⟩, hz, hk⟩, st⟩ := hr T hT X
  cases hv
  rw [h0] at hz hk
  have hA := sA47 hD
  obtain ⟨t2, a1, b1⟩ := kk T'.heap (locs ++ L) x' sn' hx' (by rw [e1]; exact hP1) (vS_step hS (by rw [e1]; exact hz) (fun q h1 h2 => by rw [e1]; exact hk q h1 (fun z => h2 (hA q z))) (fun z hz => hA _ (hL z hz))) T' rfl X'
  exact ⟨t2, st t2 a1, b1⟩
theorem w_pre (hK : va_K D vwCl [(cI, .int), (cA, .array .int)] s) (hD : wD A ad 47) (hT : tF s) (hXF : xF A s) (hC : xC s) (hP : va_P D vwCl (wl ad (sF cI cA ad n x sn) 47) H) (hS : va_S A s.heap H locs) {As : List Value} : PreS s H (va_Pc As (wG D cI cA ad (cF cI cA ad n x) 46)) As :=
  ⟨wG.blind, fun U hU hW => ⟨rfl, ⟨pX.of (sP_c hP) hK (sD_c hD) hT U hU hW, hXF.of hU hW hS.2.1 (sA hD)⟩, hC.warm hW⟩⟩
theorem e_pre (hK : va_K D vwCl [(cI, .int), (cA, .array .int)] s) (hD : wD A ad 47) (hT : tF s) (hXF : xF A s) (hC : xC s) (hP : va_P D vwCl (wl ad (sF cI cA ad n x sn) 47) H) (hS : va_S A s.heap H locs) {As : List Value} : PreS s H (va_Pc As (wG D cI cA ad (sF cI cA ad n x sn) 47)) As :=
  ⟨wG.blind, fun U hU hW => ⟨rfl, ⟨pX.of hP hK hD hT U hU hW, hXF.of hU hW hS.2.1 (sA47 hD)⟩, hC.warm hW⟩⟩
theorem c_pre (hK : va_K D vwCl [(cI, .int), (cA, .array .int)] s) (hD : wD A ad 47) (hT : tF s) (hP : va_P D vwCl (wl ad (sF cI cA ad n x sn) 47) H) {As : List Value} : PreS s H (va_Pc As (cX D cI cA ad n x)) As :=
  ⟨pX.blind, fun U hU hW => ⟨rfl, pX.of (sP_c hP) hK (sD_c hD) hT U hU hW⟩⟩
end WRP
