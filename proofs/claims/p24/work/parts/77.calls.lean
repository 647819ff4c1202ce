/-! a constructor that calls constructors -/
def cmbF (f f' : Nat → va_E) (N j : Nat) : Nat → va_E := fun k => if k = j then f' 0 else if k < N then f k else f' (k - N + 1)
section CAL
variable {p : Program} {l : Launch} {e : Env} {R : Room} {s : State} {m : MethodId} {args : Array Value} {below : List Frame} {meth : Method} {c : Code} {H : Heap} {locs : List Loc} {cells slots mc ms : Nat} {Q : State → Prop}
variable {cc : ByteArray} {pc : Nat} {ls : Array Slot} {rest st0 : List Value} {D : va_G} {A A0 : Nat → Prop} {tys : List (ClassId × FieldType)} {ad : Nat → Nat} {f f' : Nat → va_E} {N j K : Nat}
/-- new C -/
theorem r_newO (hx : p.tables.exec = Jvm.exec) (hb : c.code = cc) {own C : String} {T : u_T} {M ci index : Nat} {Ts : List Cond} (hts : ∀ w ∈ Ts, w.before args s = true) (hin : ∀ w ∈ u_ws C T M, w ∈ Ts) (ty : Nat → FieldType) (hty : ∀ k, k < M → parseFieldDescriptor (T k).2.2.1 = some (ty k)) (hown : s.vm.findClass own = some m.cls) (hcl : (Cond.classLink own index C).before args s = true) (hinst : (Cond.instantiable C M).before args s = true) (hini : (Cond.initialized C).before args s = true) (hK : va_K D vwCl tys s) (hP : va_P D vwCl (wl ad f N) H) (hh : H.size = ad N) (hc : vwCl[ci]? = some (C, T, M)) {fs : List Value} (hfs : ∀ j, j < M → defaultValue (ty j) = vp_V fs j) (hcells : cells + 1 ≤ R.cells) (hslots : slots + M ≤ R.slots) (hdg : decode cc pc = .ok (.new index, 3))
    (kk : ∀ H1 : Heap, va_P D vwCl (wl ad (va_up f N (.inr (ci, fs))) (N + 1)) H1 → H1.size = H.size + 1 → (∀ q : Nat, q < H.size → H1[q]? = H[q]?) → W p l e R s m args below meth c H1 locs (cells + 1) (slots + M) Q (F0 m (pc + 3) ls (.ref (ad N) :: rest))) : W p l e R s m args below meth c H locs cells slots Q (F0 m pc ls rest) := by
  have hKn := hK.1 ci _ hc
  refine W.newcK hx hb hown hcl hinst hini rfl hdg hcells hslots hKn.2.1 rfl fun H1 kC hkC e1 z1 o1 => ?_
  have h9 := kk H1 (wl_push hP o1 ⟨_, hc, by rw [← hh]; exact (u_born ty hts hin hKn hkC e1 hty).to hfs⟩) z1 o1
  rw [← hh] at h9
  exact h9
theorem preN {a0 : Nat} {e0 : va_E} {G : State → Prop} (hGb : ∀ (U : State) (g : JFrame) (mk : MethodId) (a : Array Value), G U → G (U.calling g mk a)) (hGw : ∀ U : State, s.WarmedH U.vm → G U) (hK : va_K D vwCl tys s) (h0 : va_at D vwCl (a0, e0) H) : PreS s H (va_Pc [.ref a0] (nX D tys a0 H.size e0 G)) [.ref a0] := by
  refine ⟨fun a U g mk ⟨h1, hz, hP, hK, hG⟩ => ⟨h1, hz, hP, va_K.moved (u := U) (U := U.calling g mk a) (Vm.Alike.refl U.vm) hK, hGb U g mk a hG⟩, fun U hU hW => ⟨rfl, by rw [hU], ?_, va_K.moved hW.alike hK, hGw U hW⟩⟩
  rw [hU]
  intro k q hq
  obtain ⟨h1, rfl⟩ := wl_of hq
  rw [show k = 0 by omega]
  exact h0
theorem xA.blind (U : State) (g : JFrame) (mk : MethodId) (a : Array Value) (h : xA U) : xA (U.calling g mk a) := xA.alike (s := U) (U := U.calling g mk a) (Vm.Alike.refl U.vm) h
/-- behind it -/
theorem k_N {av : Array Value} (hr : va_Run p l e R s m args below meth c H locs cells slots mc ms (F0 m pc ls st0) rest (qN D (ad j) H.size f' K av) (nA (ad j) H.size)) (hP : va_P D vwCl (wl ad f N) H) (hj : j < N) (hD : wD A0 ad N) (hh : ∀ i, ad (N + i) = H.size + i) (hS : va_S A s.heap H locs) (hAj : A (ad j)) (hA : ∀ q, H.size ≤ q → A q)
    (kk : ∀ (H1 : Heap) (locs1 : List Loc), va_P D vwCl (wl ad (cmbF f f' N j) (N + K)) H1 → H1.size = H.size + K → va_S A s.heap H1 locs1 → W p l e R s m args below meth c H1 locs1 (cells + mc) (slots + ms) Q (F0 m (pc + 3) ls rest)) : W p l e R s m args below meth c H locs cells slots Q (F0 m pc ls st0) := by
  have hAA : ∀ q, nA (ad j) H.size q → A q := fun q hq => hq.elim (fun z => by rw [z]; exact hAj) (hA q)
  intro T hT X
  obtain ⟨v, st₀, t, T', L, h0, X', hL, e1, e2, ⟨hv, hP1, hsz, hz, hk⟩, st⟩ := hr T hT X
  cases hv
  rw [h0] at hz hk
  have hP2 : va_P D vwCl (wl ad (cmbF f f' N j) (N + K)) T'.heap := fun k q hq => by
    obtain ⟨h1, rfl⟩ := wl_of hq
    rw [e1]
    unfold cmbF
    by_cases z : k = j
    · subst z
      rw [if_pos rfl]
      exact hP1 0 _ (wl_at (show 0 < K + 1 by omega))
    · rw [if_neg z]
      by_cases z2 : k < N
      · rw [if_pos z2]
        have h2 := hP k _ (wl_at z2)
        exact h2.kept (hk _ h2.lt (fun w => w.elim (fun w => z (hD.1 k j z2 hj w)) (fun w => absurd h2.lt (Nat.not_lt_of_le w))))
      · rw [if_neg z2]
        have h2 := hP1 (k - N + 1) _ (wl_at (show k - N + 1 < K + 1 by omega))
        have ea : adn (ad j) H.size (k - N + 1) = ad k := by
          rw [adn_s (by omega), show ad k = H.size + (k - N) by rw [← hh, show N + (k - N) = k by omega]]
          omega
        rw [ea] at h2
        exact h2
  obtain ⟨t2, a1, b1⟩ := kk T'.heap (locs ++ L) hP2 (by rw [e1]; exact hsz)
    ⟨Nat.le_trans hS.1 (by rw [e1]; exact hz), fun q h1 h2 => by rw [e1, hk q (Nat.lt_of_lt_of_le h1 hS.1) (fun z => h2 (hAA q z))]; exact hS.2.1 q h1 h2, fun q hq => by
      rcases List.mem_append.mp hq with h | h
      · exact hS.2.2 q h
      · exact hAA _ (hL q h)⟩ T' rfl X'
  exact ⟨t2, st t2 a1, b1⟩
end CAL
