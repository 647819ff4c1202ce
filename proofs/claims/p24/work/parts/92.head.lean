/-! THE CLAIM OUT OF ONE WALK OF THE LAW'S BODY. Your part is whole_start (and what it stands on); all else here is the same for every law, but numbers. -/
def R_law : String := "CardMergerLaw"
def lw_P (b : Addr) (xs : List Int32) (args : Array Value) (s : State) : Prop := args = #[.ref b] ∧ s.IntsAt b xs ∧ xs.length ≤ 260 ∧ (Jvm.Cond.and given_1 narrow_1).before args s = true
def lw_Q (_ : Array Value) (s : State) (o : Outcome) (t : State) : Prop := o = .returned (some (.int 1)) ∧ Framed s o t [] 600104 7301314
def lw_Z (below : List Frame) (a : Array Value) (s : State) : State → Prop := fun t => ∃ o, t.status = .running ∧ Ended t below o ∧ lw_Q a s o t
/-- the law's own end, with 1 on the stack, nothing written that was there before, its room as the claim has it -/
theorem lw_ret {p : Program} {l : Launch} {e : Env} {s : State} {m : MethodId} {below : List Frame} {meth : Method} {c : Code} {b : Nat} (hx : p.tables.exec = Jvm.exec) (hb : c.code = code) (hr : meth.sig.returnType = ret) (hlocks : meth.locks = false) {pc : Nat} {H : Heap} {ls : Array Slot} (hdg : decode code pc = .ok (.ireturn, 1)) : W p l e room_1 s m #[Value.ref b] below meth c H [] 600104 7301314 (lw_Z below #[Value.ref b] s) (F0 m pc ls [.int 1]) := by
  intro T hT X
  obtain ⟨fs, hret, hrun, hended, hW, hframe⟩ := X.leave (v := some (.int 1)) (hlocks := hlocks) (fun h => by rw [hr] at h; cases h)
  have hmeth' : T.vm.method? m = some meth := X.method'
  refine ⟨T.setFrames fs, ?_, .returned (some (.int 1)), hrun, hended, rfl, ⟨_, rfl⟩, hW, hframe⟩
  jvm_step X.here [X.here.top, hx, hb, hdg, hmeth', hr, ret, narrow_b1]
  (try refine ⟨rfl, ?_⟩); (try refine ⟨rfl, ?_⟩)
  first | (intro acts; rw [hret _ acts rfl rfl rfl]) | rw [hret _ _ rfl rfl rfl]
  exact Steps.refl _
/-- what holds at the law's entry: the machine, the code, the tables' words (any of lw_tbl by 'hts w (by decide +kernel)'), the script of L ints xs at the cell b, what the Statement gives of the start (any of its parts by flat_of_before) -/
def lw_At (p : Program) (s : State) (m : MethodId) (meth : Method) (c : Code) (b L : Nat) (xs : Nat → Int32) : Prop :=
  p.tables.exec = Jvm.exec ∧ c.code = code ∧ meth.sig.returnType = ret ∧ c.maxLocals = 19 ∧ s.vm.findClass R_law = some m.cls ∧ (∀ w ∈ lw_tbl, w.before #[Value.ref b] s = true) ∧ va_X b L xs s s.heap ∧ b < s.heap.size ∧ meth.locks = false ∧ (Jvm.Cond.and given_1 narrow_1).before #[Value.ref b] s = true
theorem xS_of {args : Array Value} {s : State} {k cur : Nat} {tx : String} (hcur : s.vm.findClass RX3 = some cur) (h : (Cond.stringRef RX3 k tx).before args s = true) : xS k tx s := by
  obtain ⟨_, _, _, a, _, _, _, _, _, h6⟩ := Cond.stringRef_spec hcur h
  exact ⟨a, vk_R.of h h6⟩
set_option maxRecDepth 100000 in
set_option maxHeartbeats 4000000 in
theorem lw_facts {p : Program} {s : State} {m : MethodId} {meth : Method} {c : Code} {b L : Nat} {xs : Nat → Int32} (C0 : lw_At p s m meth c b L xs) : ∃ (D : va_G) (cI cA : ClassId), va_K D vwCl [(cI, .int), (cA, .array .int)] s ∧ tF s ∧ xF (fun q => s.heap.size ≤ q) s ∧ xC s ∧ xA s := by
  obtain ⟨hx, hb, hr, hml, hown, hts, hX, hbl, hlocks, hgv⟩ := id C0
  have T : ∀ {w : Cond} (i : Nat), lw_tbl[i]? = some w → w.before #[Value.ref b] s = true := fun i h => hts _ (List.mem_of_getElem? h)
  have hfl := flat_of_before _ hgv
  obtain ⟨c0, i0, k0⟩ := u_known (C := RX0) (T := TX0) (N := 5) (n := 5) hts inX0 (T 34 (by decide +kernel))
  obtain ⟨c1, i1, k1⟩ := u_known (C := RX1) (T := TX1) (N := 2) (n := 2) hts inX1 (T 60 (by decide +kernel))
  obtain ⟨c2, i2, k2⟩ := u_known (C := RX2) (T := TX2) (N := 2) (n := 2) hts inX2 (T 73 (by decide +kernel))
  obtain ⟨c3, i3, k3⟩ := u_known (C := RX3) (T := TX3) (N := 4) (n := 4) hts inX3 (T 26 (by decide +kernel))
  obtain ⟨cI, aI, rI⟩ := K_int (T 58 (by decide +kernel))
  obtain ⟨cA, aA, rA⟩ := K_arr (T 40 (by decide +kernel))
  have hcur : s.vm.findClass RX3 = some c3 := k3.2.1
  refine ⟨(fun k => if k = 0 then c0 else if k = 1 then c1 else if k = 2 then c2 else c3, fun k => if k = 0 then i0 else if k = 1 then i1 else if k = 2 then i2 else i3), cI, cA, ⟨?_, ?_⟩, ⟨?_, ?_, ?_, ?_⟩, ⟨⟨?_, ?_⟩, ⟨?_, ?_, ?_, ?_, ?_, ?_, ?_, ?_⟩, ?_⟩, ⟨?_, ?_, ?_⟩, ?_⟩
  · intro k q hq
    match k, hq with
    | 0, hq => cases hq; exact k0
    | 1, hq => cases hq; exact k1
    | 2, hq => cases hq; exact k2
    | 3, hq => cases hq; exact k3
    | k + 4, hq => simp [vwCl] at hq
  · intro k q hq
    match k, hq with
    | 0, hq => cases hq; exact ⟨aI, rI⟩
    | 1, hq => cases hq; exact ⟨aA, rA⟩
    | k + 2, hq => simp at hq
  · exact va_Nw.of rfl (T 46 (by decide +kernel))
  · exact va_Nw.of rfl (T 314 (by decide +kernel))
  · exact va_Nw.of rfl (T 351 (by decide +kernel))
  · exact va_Nw.of rfl (T 382 (by decide +kernel))
  · exact vx_Zqof (T 134 (by decide +kernel)) (T 19 (by decide +kernel)) (hfl _ (by decide +kernel)) (fun a h => Nat.not_le.mpr h)
  · exact vx_Zqof (T 136 (by decide +kernel)) (T 19 (by decide +kernel)) (hfl _ (by decide +kernel)) (fun a h => Nat.not_le.mpr h)
  · exact xS_of hcur (T 238 (by decide +kernel))
  · exact xS_of hcur (T 148 (by decide +kernel))
  · exact xS_of hcur (T 196 (by decide +kernel))
  · exact xS_of hcur (T 400 (by decide +kernel))
  · exact xS_of hcur (T 423 (by decide +kernel))
  · exact xS_of hcur (T 440 (by decide +kernel))
  · exact xS_of hcur (T 491 (by decide +kernel))
  · exact xS_of hcur (T 460 (by decide +kernel))
  · intro E hE w hw
    simp only [xB, List.mem_cons, List.not_mem_nil, or_false] at hw
    rcases hw with rfl | rfl | rfl | rfl
    · rcases hE with rfl | rfl | rfl
      · exact va_Nw.of rfl (T 109 (by decide +kernel))
      · exact va_Nw.of rfl (T 189 (by decide +kernel))
      · exact va_Nw.of rfl (T 393 (by decide +kernel))
    · exact va_Nw.of rfl (T 111 (by decide +kernel))
    · exact va_Nw.of rfl (T 113 (by decide +kernel))
    · exact va_Nw.of rfl (T 115 (by decide +kernel))
  · exact va_Nc.of (hfl _ (by decide +kernel))
  · exact va_Nc.of (hfl _ (by decide +kernel))
  · exact va_Nc.of (hfl _ (by decide +kernel))
  · exact Jvm.Stand.arrayOver_alikeB (Vm.Alike.refl s.vm) (T 40 (by decide +kernel))
/-! the cells behind the law's start -/
section CMB
variable {f f' : Nat → va_E} {N j k : Nat}
theorem cmbF_j : cmbF f f' N j j = f' 0 := if_pos rfl
theorem cmbF_hi (h : k ≠ j) (h2 : ¬ k < N) : cmbF f f' N j k = f' (k - N + 1) := (if_neg h).trans (if_neg h2)
end CMB
def lwF (cI cA : ClassId) (sz : Nat) (g : Nat → va_E) (e3 : va_E) : Nat → va_E := va_up (cmbF (va_up g 0 e3) (cl3F cI cA sz (sz + 1)) 1 0) 46 (.inl (cI, 24, .inl (fun _ => nI 0)))
theorem lwF_o {cI cA : ClassId} {sz : Nat} {g : Nat → va_E} {e3 : va_E} {k : Nat} (hk : k < 46) : lwF cI cA sz g e3 k = seqF cI cA sz k := by
  unfold lwF
  rw [va_up_ne _ _ (by omega), ← cl3_seq hk]
  by_cases h : k = 0
  · rw [h, cmbF_j]
  · rw [cmbF_hi h (by omega), show k - 1 + 1 = k by omega]
theorem lwF_46 {cI cA : ClassId} {sz : Nat} {g : Nat → va_E} {e3 : va_E} : lwF cI cA sz g e3 46 = .inl (cI, 24, .inl (fun _ => nI 0)) := va_up_self ..
theorem adl_D {sz N : Nat} : wD (fun _ => True) (fun k => sz + k) N := ⟨fun _ _ _ _ e => Nat.add_left_cancel e, fun _ _ => trivial⟩
