/-! WHAT THROWS: the facts that it needs, its contract, its leaf and the way on -/
def IOOB : String := "java/lang/IndexOutOfBoundsException"
def IAE : String := "java/lang/IllegalArgumentException"
def ISE : String := "java/lang/IllegalStateException"
def xS (k : Nat) (tx : String) (U : State) : Prop := ∃ sa : Nat, vk_R RX3 k tx sa U
/-- the words of a throw that are no good words, by the thrown class -/
def xB (E : String) : List Cond := [.castable E E, .declares (Bundle.initS "java/lang/RuntimeException"), .declares (Bundle.initS "java/lang/Exception"), .declares (Bundle.initS Bundle.tN)]
def xN (U : State) : Prop := ∀ E, E = IOOB ∨ E = IAE ∨ E = ISE → ∀ w ∈ xB E, va_Nw w U
theorem xN.warm {s U : State} (hW : s.WarmedH U.vm) (h : xN s) : xN U := by
  intro E hE w hw
  have h0 := h E hE w hw
  simp only [xB, List.mem_cons, List.not_mem_nil, or_false] at hw
  rcases hw with rfl | rfl | rfl | rfl
  · exact va_Nw.warmC hW h0
  · exact va_Nw.warmD hW h0
  · exact va_Nw.warmD hW h0
  · exact va_Nw.warmD hW h0
def xT (U : State) : Prop := xS 183 "no such book" U ∧ xS 185 "no such card" U ∧ xS 189 "an argument is out of its range" U ∧ xS 52 "there are 24 cards" U ∧ xS 120 "these two are linked" U ∧ xS 134 "these two are not linked" U ∧ xS 163 "no such place" U ∧ xS 172 "they are no suggested pair" U
theorem xS.warm {k : Nat} {tx : String} {s U : State} (hW : s.WarmedH U.vm) (h : xS k tx s) : xS k tx U := h.elim fun a ha => ⟨a, vk_R.warm hW ha⟩
theorem xT.warm {s U : State} (hW : s.WarmedH U.vm) (h : xT s) : xT U := ⟨h.1.warm hW, h.2.1.warm hW, h.2.2.1.warm hW, h.2.2.2.1.warm hW, h.2.2.2.2.1.warm hW, h.2.2.2.2.2.1.warm hW, h.2.2.2.2.2.2.1.warm hW, h.2.2.2.2.2.2.2.warm hW⟩
def xZ (A : Nat → Prop) (U : State) (H : Heap) : Prop := vx_Zq Bundle.tN "UNASSIGNED_STACK" Bundle.steD A U H ∧ vx_Zq Bundle.tN "SUPPRESSED_SENTINEL" Bundle.listD A U H
def xF (A : Nat → Prop) (U : State) : Prop := xZ A U U.heap ∧ xT U ∧ xN U
theorem xF.of {A B : Nat → Prop} {s U : State} {H : Heap} (hU : U.heap = H) (hW : s.WarmedH U.vm) (hk : ∀ a : Nat, a < s.heap.size → ¬ A a → H[a]? = s.heap[a]?) (hAB : ∀ q, B q → A q) (h : xF A s) : xF B U := by
  obtain ⟨⟨h1, h2⟩, h3, h4⟩ := h
  subst hU
  exact ⟨⟨(vx_Zq.moved hW.alike (h1.kept hk)).narrow hAB, (vx_Zq.moved hW.alike (h2.kept hk)).narrow hAB⟩, h3.warm hW, h4.warm hW⟩
theorem xF.blind {A : Nat → Prop} {a : Array Value} {U : State} {g : JFrame} {mk : MethodId} (h : xF A U) : xF A (U.calling g mk a) := by
  refine xF.of (A := A) (s := U) (H := U.heap) rfl ?_ (fun _ _ _ => rfl) (fun _ h => h) h
  show U.WarmedH U.vm
  exact State.WarmedH.refl U
/-- it throws E, and no old cell is another -/
def xE (E : String) : String → State → State → Prop := fun E' st t => E' = E ∧ st.heap.size ≤ t.heap.size ∧ ∀ q : Nat, q < st.heap.size → t.heap[q]? = st.heap[q]?
def nQ : Array Value → State → Outcome → State → Prop := fun _ _ _ _ => False
/-- a throwing method's start -/
def pT (D : va_G) (tys : List (ClassId × FieldType)) (ad : Nat → Nat) (f : Nat → va_E) (n : Nat) (U : State) : Prop := pX D tys ad f n U ∧ xF (wA ad n) U
theorem pT.blind {D : va_G} {tys : List (ClassId × FieldType)} {ad : Nat → Nat} {f : Nat → va_E} {n : Nat} {As : List Value} : FrameBlind (va_Pc As (pT D tys ad f n)) := by
  intro a U g mk ⟨h1, h2, h3⟩
  exact ⟨h1, (pX.blind (As := a.toList) a U g mk ⟨by simp, h2⟩).2, h3.blind⟩
theorem xq.blind {A : Nat → Prop} {As : List Value} : FrameBlind (va_Pc As (xF A)) := by
  intro a U g mk ⟨h1, h2⟩
  exact ⟨h1, h2.blind⟩
abbrev cT (D : va_G) (cI cA : ClassId) (ad : Nat → Nat) (n : Nat) (x : Nat → Nat → Int32) : State → Prop := pT D [(cI, .int), (cA, .array .int)] ad (cF cI cA ad n x) 46
section CMT
variable {p : Program} {l : Launch} {e : Env} {R : Room} {s : State} {m : MethodId} {args : Array Value} {below : List Frame} {meth : Method} {c : Code} {H : Heap} {locs : List Loc} {cells slots : Nat} {Q : State → Prop}
variable {cc : ByteArray} {pc : Nat} {ls : Array Slot} {rest st0 : List Value} {D : va_G} {A B : Nat → Prop} {tys : List (ClassId × FieldType)} {H0 : Heap} {ad : Nat → Nat} {f f' : Nat → va_E} {N : Nat}
/-- 'throw new E("text")' -/
theorem r_throw (hx : p.tables.exec = Jvm.exec) (hb : c.code = cc) (hlt : l.stackTraces = false) {cls text : String} {ik is ic : Nat} {Ts : List Cond} (hts : ∀ w ∈ Ts, w.before args s = true) (hown : s.vm.findClass RX3 = some m.cls) (hE : cls = IOOB ∨ cls = IAE ∨ cls = ISE) (hfit : Bundle.fit cls = true)
    (hk : Cond.classLink RX3 ik cls ∈ Ts) (hini : Cond.initialized cls ∈ Ts) (hwd : ∀ w ∈ (vx_atS RX3 ic cls ["java/lang/RuntimeException", "java/lang/Exception"]).filter goodWord, w ∈ Ts)
    (hbd : ∀ w ∈ (vx_atS RX3 ic cls ["java/lang/RuntimeException", "java/lang/Exception"]).filter (fun w => !goodWord w), w ∈ xB cls)
    (hgood : ∀ w ∈ Cond.classLink RX3 ik cls :: Cond.initialized cls :: vx_atS RX3 ic cls ["java/lang/RuntimeException", "java/lang/Exception"], vx_ot w = true)
    (hstr : xS is text s) (hN : xN s) (hZ : xZ A s s.heap) (hS : va_S A s.heap H locs) (hsize : ls.size = c.maxLocals)
    (d0 : decode cc pc = .ok (.new ik, 3)) (d3 : decode cc (pc + 3) = .ok (.dup, 1)) (d4 : decode cc (pc + 4) = .ok (.ldc is, 2)) (d6 : decode cc (pc + 6) = .ok (.invokespecial ic, 3)) (d9 : decode cc (pc + 9) = .ok (.athrow, 1))
    (htab : ∀ x ∈ c.exceptionTable.toList, False) (hRf : 5 < R.frames) (hRl : 82 ≤ R.locals) (hRc : cells + 1 ≤ R.cells) (hRs : slots + 6 ≤ R.slots) (hlocks : meth.locks = false) {XC : String → State → State → Prop} {mc ms : Nat} {free : Addr → Prop}
    (hXC : ∀ t : State, H.size ≤ t.heap.size → (∀ q : Nat, q < H.size → t.heap[q]? = H[q]?) → XC cls s t) (hf : ∀ z ∈ locs, free z.base) (hmc : cells + 1 ≤ mc) (hms : slots + 6 ≤ ms) :
    W p l e R s m args below meth c H locs cells slots (vx_MQ below nQ XC args s mc ms free) (F0 m pc ls []) := by
  obtain ⟨sa, hsa⟩ := hstr
  refine vx_throwS (names := ["java/lang/RuntimeException", "java/lang/Exception"]) (A := A) hx hb hlt hown hfit (by decide +kernel) (hts _ hk) (hts _ hini) hsa ?_ hgood hZ.1 hZ.2 hS hsize d0 d3 d4 d6 d9 (fun x hx => (htab x hx).elim) hRf hRl hRc hRs hlocks (fun t _ h1 h2 => hXC t h1 h2) hf hmc hms
  exact vx_hat (fun w hw => hts w (hwd w hw)) hbd (fun w hw => va_any (by revert hw; simp only [xB, List.mem_cons, List.not_mem_nil, or_false]; rintro (rfl | rfl | rfl | rfl) <;> rfl) (hN cls hE w hw))
/-- a call that throws E goes on to the caller -/
theorem k_T {Qa : State → Outcome → State → Prop} {E : String} (hr : vx_Run p l e R s m args below meth c H locs cells slots 1 6 (F0 m pc ls st0) rest Qa (xE E) nF) (hQ : ∀ st v t, ¬ Qa st (.returned v) t)
    (kk : ∀ (H1 : Heap) (q : Addr) (ce : Cell), H.size ≤ H1.size → (∀ a : Nat, a < H.size → H1[a]? = H[a]?) → H1[q]? = some ce → ce.vm = .none → s.vm.findClass E = some ce.cls → vx_W p l e R s m args below meth c H1 locs (cells + 1) (slots + 6) Q (F0 m pc ls rest) q) : W p l e R s m args below meth c H locs cells slots Q (F0 m pc ls st0) := by
  intro T hT X
  rcases hr T hT X with ⟨v, st₀, t, T', L, h0, X', hL, e1, e2, hq, st⟩ | ⟨q, st₀, t, T', L, E', ce, h0, X', hL, e1, e2, ⟨rfl, hz, hk⟩, hce, hcv, hcl, st⟩
  · exact absurd hq (hQ _ _ _)
  · have hL0 : L = [] := List.eq_nil_iff_forall_not_mem.mpr fun q hq => hL q hq
    subst hL0
    rw [List.append_nil] at X'
    rw [h0] at hz hk
    obtain ⟨t2, a1, b1⟩ := kk T'.heap q ce (by rw [e1]; exact hz) (fun a ha => by rw [e1]; exact hk a ha) (by rw [e1]; exact hce) hcv hcl T' rfl X'
    exact ⟨t2, st.trans a1, b1⟩
/-- .. out of a method without a table that has written nothing -/
theorem k_To {Qa : State → Outcome → State → Prop} {E : String} (hr : vx_Run p l e R s m args below meth c s.heap [] 0 0 1 6 (F0 m pc ls st0) rest Qa (xE E) nF) (hQ : ∀ st v t, ¬ Qa st (.returned v) t) (htab : ∀ x ∈ c.exceptionTable.toList, False) (hlocks : meth.locks = false) :
    W p l e R s m args below meth c s.heap [] 0 0 (vx_MQ below nQ (xE E) args s 1 6 nF) (F0 m pc ls st0) :=
  k_T hr hQ fun H1 q ce h1 h2 h3 h4 h5 => vx_out (fun x hx => (htab x hx).elim) hlocks h3 h4 h5 (fun t ht _ => ⟨rfl, by rw [ht]; exact h1, fun a ha => by rw [ht]; exact h2 a ha⟩) (fun _ h => by cases h) (Nat.le_refl _) (Nat.le_refl _)
theorem k_preT {k ci : Nat} {As : List Value} {fs : List Value} {q : vw_C} (hP : va_P D vwCl (wl ad f N) s.heap) (hK : va_K D vwCl tys s) (hD : wD A ad N) (hT : tF s) (hX : xF (wA ad N) s) (hk : k < N) (ha : f k = .inr (ci, fs)) (hc : vwCl[ci]? = some q) : PreV s s.heap q.1 (ad k) (va_Pc (.ref (ad k) :: As) (pT D tys ad f N)) As :=
  ⟨pT.blind, va_recv hK hP hc ((wl_at hk).trans (by rw [ha])), fun U hU hW => ⟨rfl, pX.of hP hK hD hT U hU hW, hX.of hU hW (fun _ _ _ => rfl) (fun _ h => h)⟩⟩
theorem k_preX {As : List Value} (hX : xF A s) : PreS s s.heap (va_Pc As (xF A)) As := ⟨xq.blind, fun U hU hW => ⟨rfl, hX.of hU hW (fun _ _ _ => rfl) (fun _ h => h)⟩⟩
end CMT
/-- a method that throws E, having written nothing -/
theorem c_ofT {l : Launch} {y : MethodName} {ws ws' : List Cond} {rm : Room} {cc : ByteArray} {maxL : Nat} {ret : Option FieldType} {As : List Value} {B0 : State → Prop} {E : String} (hy : plainName y.cls = true) (hw : ws = Cond.code y cc maxL ret :: ws') (hla : (lg_sl As).length ≤ maxL)
    (body : ∀ (p : Program) (e : Env) (s : State) (m : MethodId) (av : Array Value) (below : List Frame) (meth : Method) (cd : Code) (Q : State → Prop), Q = vx_MQ below nQ (xE E) av s 1 6 nF → 
      p.tables.exec = Jvm.exec → cd.code = cc → CallFix p m cd cc maxL s av ws y.cls → (∀ x ∈ cd.exceptionTable.toList, False) → meth.locks = false → B0 s →
      ∀ ls : Array Slot, lv_has ls maxL (lv_args 0 As) → W p l e rm s m av below meth cd s.heap [] 0 0 Q (F0 m 0 ls [])) :
    vx_Met l y ws rm (va_Pc As B0) nQ (xE E) 1 6 nF := by
  refine vx_ofW (cc := cc) (maxL := maxL) (ret := ret) hy hw ?_
  intro p e s m args below meth c s₁ B hml htab hv
  obtain ⟨rfl, hB⟩ := hv
  have hl := lv_entry As (n := maxL) hla
  rw [lg_entry_eq]
  exact body p e s m _ below meth c _ rfl B.exec B.bytes ⟨B.exec, B.bytes, hml, findClass_of_methodNamed B.named, atoms_spec (ws := ws) B.pre⟩ htab B.notSynchronized hB _ hl
/-- it throws E, and the world is f -/
def xEW (D : va_G) (ad : Nat → Nat) (f : Nat → va_E) (n : Nat) (E : String) : String → State → State → Prop := fun E' st t => E' = E ∧ va_P D vwCl (wl ad f n) t.heap ∧ st.heap.size ≤ t.heap.size ∧ ∀ q : Nat, q < st.heap.size → ¬ wA ad n q → t.heap[q]? = st.heap[q]?
theorem c_ofX {l : Launch} {y : MethodName} {ws ws' : List Cond} {rm : Room} {cc : ByteArray} {maxL : Nat} {ret : Option FieldType} {As : List Value} {B0 : State → Prop} {E : String} {D : va_G} {ad : Nat → Nat} {f' : Nat → va_E} {N : Nat} (hy : plainName y.cls = true) (hw : ws = Cond.code y cc maxL ret :: ws') (hla : (lg_sl As).length ≤ maxL)
    (body : ∀ (p : Program) (e : Env) (s : State) (m : MethodId) (av : Array Value) (below : List Frame) (meth : Method) (cd : Code) (Q : State → Prop), Q = vx_MQ below nQ (xEW D ad f' N E) av s 1 6 (wA ad N) → 
      p.tables.exec = Jvm.exec → cd.code = cc → CallFix p m cd cc maxL s av ws y.cls → (∀ x ∈ cd.exceptionTable.toList, False) → meth.locks = false → B0 s →
      ∀ ls : Array Slot, lv_has ls maxL (lv_args 0 As) → W p l e rm s m av below meth cd s.heap [] 0 0 Q (F0 m 0 ls [])) :
    vx_Met l y ws rm (va_Pc As B0) nQ (xEW D ad f' N E) 1 6 (wA ad N) := by
  refine vx_ofW (cc := cc) (maxL := maxL) (ret := ret) hy hw ?_
  intro p e s m args below meth c s₁ B hml htab hv
  obtain ⟨rfl, hB⟩ := hv
  have hl := lv_entry As (n := maxL) hla
  rw [lg_entry_eq]
  exact body p e s m _ below meth c _ rfl B.exec B.bytes ⟨B.exec, B.bytes, hml, findClass_of_methodNamed B.named, atoms_spec (ws := ws) B.pre⟩ htab B.notSynchronized hB _ hl
