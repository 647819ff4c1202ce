/-! CONSTRUCTORS: the object at a0, its new cells one behind the other from sz on -/
def adn (a0 sz : Nat) : Nat → Nat := fun k => if k = 0 then a0 else sz + (k - 1)
def nA (a0 sz : Nat) : Nat → Prop := fun q => q = a0 ∨ sz ≤ q
theorem adn_0 {a0 sz : Nat} : adn a0 sz 0 = a0 := rfl
theorem adn_s {a0 sz k : Nat} (h : k ≠ 0) : adn a0 sz k = sz + (k - 1) := if_neg h
theorem adn_D {a0 sz N : Nat} (h0 : a0 < sz) : wD (nA a0 sz) (adn a0 sz) N := by
  refine ⟨fun i j hi hj e => ?_, fun k hk => ?_⟩
  · unfold adn at e
    by_cases h1 : i = 0
    · by_cases h2 : j = 0
      · omega
      · rw [if_pos h1, if_neg h2] at e; omega
    · by_cases h2 : j = 0
      · rw [if_neg h1, if_pos h2] at e; omega
      · rw [if_neg h1, if_neg h2] at e; omega
  · unfold adn
    by_cases h1 : k = 0
    · rw [if_pos h1]; exact Or.inl rfl
    · rw [if_neg h1]; exact Or.inr (Nat.le_add_right _ _)
def nX (D : va_G) (tys : List (ClassId × FieldType)) (a0 sz : Nat) (e0 : va_E) (G : State → Prop) (U : State) : Prop := U.heap.size = sz ∧ va_P D vwCl (wl (adn a0 sz) (fun _ => e0) 1) U.heap ∧ va_K D vwCl tys U ∧ G U
def qN (D : va_G) (a0 sz : Nat) (f' : Nat → va_E) (K : Nat) : Array Value → State → Outcome → State → Prop := fun _ st o t => o = .returned none ∧ va_P D vwCl (wl (adn a0 sz) f' (K + 1)) t.heap ∧ t.heap.size = sz + K ∧ va_F (nA a0 sz) st t
section NEW2
variable {p : Program} {l : Launch} {e : Env} {R : Room} {s : State} {m : MethodId} {args : Array Value} {below : List Frame} {meth : Method} {c : Code} {H : Heap} {locs : List Loc} {cells slots : Nat} {Q : State → Prop}
variable {cc : ByteArray} {pc : Nat} {ls : Array Slot} {rest st0 : List Value} {D : va_G} {A : Nat → Prop} {tys : List (ClassId × FieldType)} {H0 : Heap} {ad : Nat → Nat} {f f' : Nat → va_E} {N : Nat}
theorem vS_trans {H1 : Heap} {locs1 : List Loc} (h : va_S A H0 H locs) (h2 : va_S A H H1 locs1) : va_S A H0 H1 locs1 := ⟨Nat.le_trans h.1 h2.1, fun q q1 q2 => (h2.2.1 q (Nat.lt_of_lt_of_le q1 h.1) q2).trans (h.2.1 q q1 q2), h2.2.2⟩
theorem vS_sS (h : va_S A H0 H locs) : sS A H H locs := ⟨⟨Nat.le_refl _, fun _ _ _ => rfl, h.2.2⟩, rfl⟩
theorem vS_new {H1 : Heap} (h : va_S A H0 H locs) (hz : H.size ≤ H1.size) (hk : ∀ q : Nat, q < H.size → H1[q]? = H[q]?) : va_S A H0 H1 locs := ⟨Nat.le_trans h.1 hz, fun q q1 q2 => (hk q (Nat.lt_of_lt_of_le q1 h.1)).trans (h.2.1 q q1 q2), h.2.2⟩
/-- a final field, in its constructor -/
theorem r_putR (hx : p.tables.exec = Jvm.exec) (hb : c.code = cc) {own C : String} {T : u_T} {M ci index : Nat} {Ts : List Cond} (hts : ∀ w ∈ Ts, w.before args s = true) (hin : ∀ w ∈ u_ws C T M, w ∈ Ts) (ty0 : Nat → FieldType) (hty : ∀ k, k < M → parseFieldDescriptor (T k).2.2.1 = some (ty0 k)) (hnm : ∀ a, a < M → ∀ b, b < M → a ≠ b → (T a).2.1 ≠ (T b).2.1) (hown : s.vm.findClass own = some m.cls) (hK : va_K D vwCl tys s) (hP : va_P D vwCl (wl ad f N) H) (hD : wD A ad N) (hS : va_S A H0 H locs) (k : Nat) (hk : k < N) {fs : List Value} (ha : f k = .inr (ci, fs)) (hc : vwCl[ci]? = some (C, T, M)) (j : Nat) (hj : j < M) {fd fo : String} (hfo : T j = (C, fd, fo, true)) (hlink : Cond.fieldLink own index C fd fo ∈ Ts) (hC : C = own) (hini : meth.name = "<init>") {ty : FieldType} {v : Value} (hd : parseFieldDescriptor fo = some ty) (hn : narrow ty v = v) (hfit : fits ty v = true) (hl : j < fs.length) (hf : va_up f k (.inr (ci, fs.set j v)) = f') (hdg : decode cc pc = .ok (.putfield index, 3))
    (kk : ∀ (H1 : Heap) (locs1 : List Loc), va_P D vwCl (wl ad f' N) H1 → H1.size = H.size → va_S A H0 H1 locs1 → W p l e R s m args below meth c H1 locs1 cells slots Q (F0 m (pc + 3) ls rest)) : W p l e R s m args below meth c H locs cells slots Q (F0 m pc ls (v :: .ref (ad k) :: rest)) := by
  have e1 : (T j).1 = C := by rw [hfo]
  have e2 : (T j).2.1 = fd := by rw [hfo]
  have e3 : (T j).2.2.1 = fo := by rw [hfo]
  have he : (wl ad f N)[k]? = some (ad k, .inr (ci, fs)) := (wl_at hk).trans (by rw [ha])
  have hap := va_apart (own := own) hts hin ty0 hty hnm hK hc
  obtain ⟨r, h1, cell, q1, q2, q3, q4⟩ := hP k _ he
  have hr : r = (C, T, M) := Option.some.inj (h1.symm.trans hc)
  subst hr
  obtain ⟨hSl, hfc, kC, hkC, hkind⟩ := hK.1 ci _ hc
  obtain ⟨cf, kf, fi, fl, hi, hsl⟩ := hSl j hj
  have hlay := hts _ (hin _ (u_in_lay hj))
  unfold u_lay at hlay
  rw [if_pos (by rw [hfo])] at hlay
  have hst := (u_facts hfc hkC (u_lays hts hin hj) hi).1
  have hcf : m.cls = cf := by
    obtain ⟨_, _, c', _, _, _, -, -, hf', -, -, -, hown2, -⟩ := Cond.laysFinal_spec hlay
    have e1' : c' = cf := by have := hi.symm.trans hf'; simp at this; exact this.1.symm
    rw [e1, hC] at hown2
    rw [← e1']; exact Option.some.inj (hown.symm.trans hown2)
  have h6 := u_fits (v := v) (ty := ty) hfc hkC hkind (Or.inr hlay) hi (by rw [e3]; exact hd) hn hfit
  refine W.putFinK hx hb hown (hts _ hlink) (by rw [← e1, ← e2, ← e3]; exact hi) hst hcf hini (by rw [q2]; exact h6) q1 q3 (by rw [hsl]; exact k2_hasslot (q4 j hj)) rfl rfl hdg fun H' g1 g2 g3 => ?_
  rw [hsl] at g1 ⊢
  have h2 := hP.set (hD.to f) he (e := .inr (ci, fs.set j v)) ⟨_, hc, t_OB.to (V := updV (vp_V fs) j v) ⟨_, g1, q2, q3, t_set q4 hap hj v⟩ (fun i _ => vp_updV_set hl v i)⟩ g3
  rw [wl_set _ hk, hf] at h2
  exact kk H' _ h2 g2 (hS.put g2 g3 (hD.2 k hk))
end NEW2
theorem wl_congr {ad : Nat → Nat} {f f' : Nat → va_E} {N : Nat} (h : ∀ k, k < N → f k = f' k) : wl ad f N = wl ad f' N := by
  unfold wl
  apply List.map_congr_left
  intro k hk
  rw [h k (List.mem_range.mp hk)]
theorem c_ofN {l : Launch} {y : MethodName} {ws ws' : List Cond} {rm : Room} {cc : ByteArray} {maxL : Nat} {D : va_G} {tys : List (ClassId × FieldType)} {a0 sz : Nat} {e0 : va_E} {G : State → Prop} {f' : Nat → va_E} {K mc ms : Nat} (hy : plainName y.cls = true) (hyn : y.name = "<init>") (hw : ws = Cond.code y cc maxL none :: ws') (hla : 1 ≤ maxL)
    (body : ∀ (p : Program) (e : Env) (s : State) (m : MethodId) (av : Array Value) (below : List Frame) (meth : Method) (cd : Code) (Q : State → Prop),
      p.tables.exec = Jvm.exec → cd.code = cc → CallFix p m cd cc maxL s av ws y.cls → meth.name = "<init>" → s.heap.size = sz → va_P D vwCl (wl (adn a0 sz) (fun _ => e0) 1) s.heap → va_K D vwCl tys s → G s → a0 < sz →
      (∀ (H : Heap) (locs : List Loc) (cells slots : Nat) (pc : Nat) (ls : Array Slot) (f9 : Nat → va_E), va_P D vwCl (wl (adn a0 sz) f9 (K + 1)) H → H.size = sz + K → va_S (nA a0 sz) s.heap H locs → decode cc pc = .ok (.return_, 1) → (∀ k, k < K + 1 → f9 k = f' k) → cells ≤ mc → slots ≤ ms → W p l e rm s m av below meth cd H locs cells slots Q (F0 m pc ls [])) →
      ∀ ls : Array Slot, lv_has ls maxL [(0, .ref a0)] → W p l e rm s m av below meth cd s.heap [] 0 0 Q (F0 m 0 ls [])) :
    Met l y ws rm (va_Pc [.ref a0] (nX D tys a0 sz e0 G)) (qN D a0 sz f' K) mc ms (nA a0 sz) := by
  refine Met.ofW (cc := cc) (maxL := maxL) (ret := none) hy hw ?_
  intro p e s m args below meth c s₁ B hml hv
  obtain ⟨rfl, hsz, hP, hK, hG⟩ := hv
  have hr : meth.sig.returnType = none := B.returns
  have hl := lv_entry ([.ref a0]) (n := maxL) hla
  rw [lg_entry_eq]
  have hlt : a0 < sz := by rw [← hsz]; exact (hP 0 _ (wl_at (show 0 < 1 by decide))).lt
  refine body p e s m _ below meth c _ B.exec B.bytes ⟨B.exec, B.bytes, hml, findClass_of_methodNamed B.named, atoms_spec (ws := ws) B.pre⟩ ?_ hsz hP hK hG hlt
    (fun H locs cells slots pc ls f9 hP9 hz hS hdg hf h1 h2 => by
      rw [wl_congr hf] at hP9
      exact W.widen (k := mc) (n := ms) h1 h2 (W.vret B.exec B.bytes hr (fun t ht hW => ⟨rfl, by rw [ht]; exact hP9, by rw [ht]; exact hz, hS.F ht⟩) hS.2.2 hdg B.notSynchronized)) _ hl
  exact (name_of_methodNamed B.named B.method).1.trans hyn
